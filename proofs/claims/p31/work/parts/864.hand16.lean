/-! the word at a place; walks printed by program (wip/p30/pmgen.py) and filled by hand -/
section ZHW
variable {D : va_G} {Wm : Nat} {ST : List (String × String × String × Nat)} {b0 : sx_B} {l : Launch} {Sg : Nat → Option Nat} {bud : sx_Bu} {μ : pm_Mem} {B0 : Nat → Prop} {J : (Nat → Option Nat) → Heap → Prop}
set_option maxRecDepth 100000 in
theorem zh_raw (hK : zKK ST) {i : Int} (hT : zTJ μ) (hi : 0 ≤ i) (hbd : 0 ≤ bud.1 ∧ 0 ≤ bud.2.1) : zC D Wm ST b0 l Sg zM140 bud [(2, 205), (0, i)] μ (fun st' μ' => μ = μ' ∧ ∃ x, st' = [(0, x)] ∧ x = zraw μ i ∧ -1 ≤ x ∧ x ≤ 255 ∧ (x ≠ -1 → i < μ 205 11 ∧ μ 205 11 ≤ 400 ∧ x = μ 211 i)) := by
  have f1 := zT_get hT zs205_11 (i := 11) (by omega) (by omega)
  refine pm_blk hK zmm140 [] 3 5 [(2, 205), (0, i)] [(0, μ 205 11), (0, i)] μ [] rfl trivial ?_
  refine pm_icmp hK zmm140 .ge 12 17 rfl rfl (fun h0 => ?_) (fun h0 => ?_)
  · have h0 : μ 205 11 ≤ i := h0
    refine pm_blk hK zmm140 [] 1 18 [(2, 205), (0, i)] [(0, (-1))] μ [] rfl trivial ?_
    refine pm_iret rfl rfl ⟨rfl, _, rfl, ?_, by omega, by omega, ?_⟩
    · unfold zraw
      first
      | rw [if_pos (by omega)]
      | rw [if_neg (by omega)]
    · intro hx
      first
      | exact ⟨by omega, by omega, rfl⟩
      | exact absurd rfl hx
  · have h0 : i < μ 205 11 := h0
    have f2 := zT_get hT zs211_0 (i := i) (by omega) (by omega)
    refine pm_blk hK zmm140 [] 5 18 [(2, 205), (0, i)] [(0, μ 211 i)] μ [0 ≤ i ∧ i < 400] rfl ⟨⟨by omega, by omega⟩, trivial⟩ ?_
    refine pm_iret rfl rfl ⟨rfl, _, rfl, ?_, by omega, by omega, ?_⟩
    · unfold zraw
      first
      | rw [if_pos (by omega)]
      | rw [if_neg (by omega)]
    · intro hx
      first
      | exact ⟨by omega, by omega, rfl⟩
      | exact absurd rfl hx
set_option maxRecDepth 100000 in
theorem zh_isLetter (hK : zKK ST) {c : Int} (hbd : 1 ≤ bud.1 ∧ 23 ≤ bud.2.1) : zC D Wm ST b0 l Sg zM274 bud [(2, 205), (0, c)] μ (fun st' μ' => μ = μ' ∧ ∃ x, st' = [(0, x)] ∧ 0 ≤ x ∧ x ≤ 1 ∧ (x ≠ 0 → 65 ≤ c)) := by
  refine pm_blk hK zmm274 [] 4 6 [(2, 205), (0, c)] [(0, 122), (0, 97), (0, c), (2, 205)] μ [] rfl trivial ?_
  refine pm_call hK zmm274 (158, 0, 129, 3) zM129 (0, 0) [(2, 205), (0, c), (0, 97), (0, 122)] [] rfl rfl rfl rfl ⟨by omega, by rw [zn129]; omega⟩ (zh_isIn hK ⟨by omega, by omega⟩) (fun st1 μc1 hp1 => ?_)
  obtain ⟨rfl, rfl⟩ := hp1
  refine pm_if hK zmm274 .ne 15 24 rfl rfl (fun h0 => ?_) (fun h0 => ?_)
  · have h0 : (if 97 ≤ c ∧ c ≤ 122 then 1 else 0 : Int) ≠ (0 : Int) := h0
    have h0 := zif1 h0
    refine pm_blk hK zmm274 [] 2 29 [(2, 205), (0, c)] [(0, 1)] μ [] rfl trivial ?_
    exact pm_zret rfl rfl (by first | exact Or.inl rfl | exact Or.inr rfl | omega) ⟨rfl, _, rfl, by omega, by omega, by omega⟩
  · have h0 : (if 97 ≤ c ∧ c ≤ 122 then 1 else 0 : Int) = (0 : Int) := h0
    have h0 := zif0 h0
    refine pm_blk hK zmm274 [] 4 18 [(2, 205), (0, c)] [(0, 90), (0, 65), (0, c), (2, 205)] μ [] rfl trivial ?_
    refine pm_call hK zmm274 (158, 0, 129, 3) zM129 (0, 0) [(2, 205), (0, c), (0, 65), (0, 90)] [] rfl rfl rfl rfl ⟨by omega, by rw [zn129]; omega⟩ (zh_isIn hK ⟨by omega, by omega⟩) (fun st2 μc2 hp2 => ?_)
    obtain ⟨rfl, rfl⟩ := hp2
    refine pm_if hK zmm274 .eq 7 28 rfl rfl (fun h1 => ?_) (fun h1 => ?_)
    · have h1 : (if 65 ≤ c ∧ c ≤ 90 then 1 else 0 : Int) = (0 : Int) := h1
      have h1 := zif0 h1
      refine pm_blk hK zmm274 [] 1 29 [(2, 205), (0, c)] [(0, 0)] μ [] rfl trivial ?_
      exact pm_zret rfl rfl (by first | exact Or.inl rfl | exact Or.inr rfl | omega) ⟨rfl, _, rfl, by omega, by omega, by omega⟩
    · have h1 : (if 65 ≤ c ∧ c ≤ 90 then 1 else 0 : Int) ≠ (0 : Int) := h1
      have h1 := zif1 h1
      refine pm_blk hK zmm274 [] 2 29 [(2, 205), (0, c)] [(0, 1)] μ [] rfl trivial ?_
      exact pm_zret rfl rfl (by first | exact Or.inl rfl | exact Or.inr rfl | omega) ⟨rfl, _, rfl, by omega, by omega, by omega⟩
set_option maxRecDepth 100000 in
theorem zh_isDigit (hK : zKK ST) {c : Int} (hbd : 1 ≤ bud.1 ∧ 23 ≤ bud.2.1) : zC D Wm ST b0 l Sg zM276 bud [(2, 205), (0, c)] μ (fun st' μ' => μ = μ' ∧ ∃ x, st' = [(0, x)] ∧ 0 ≤ x ∧ x ≤ 1 ∧ (x ≠ 0 → 48 ≤ c ∧ c ≤ 57)) := by
  refine pm_blk hK zmm276 [] 4 6 [(2, 205), (0, c)] [(0, 57), (0, 48), (0, c), (2, 205)] μ [] rfl trivial ?_
  refine pm_call hK zmm276 (158, 0, 129, 3) zM129 (0, 0) [(2, 205), (0, c), (0, 48), (0, 57)] [] rfl rfl rfl rfl ⟨by omega, by rw [zn129]; omega⟩ (zh_isIn hK ⟨by omega, by omega⟩) (fun st1 μc1 hp1 => ?_)
  obtain ⟨rfl, rfl⟩ := hp1
  rcases zif01 (48 ≤ c ∧ c ≤ 57) with q | q
  · rw [q]; exact pm_zret rfl rfl (by first | exact Or.inl rfl | exact Or.inr rfl | omega) ⟨rfl, _, rfl, by omega, by omega, by omega⟩
  · rw [q]; have q2 := zif1 (P := 48 ≤ c ∧ c ≤ 57) (by omega); exact pm_zret rfl rfl (by first | exact Or.inl rfl | exact Or.inr rfl | omega) ⟨rfl, _, rfl, by omega, by omega, fun _ => q2⟩
set_option maxRecDepth 100000 in
theorem zh_isMarkSign (hK : zKK ST) {c : Int} (hbd : 0 ≤ bud.1 ∧ 0 ≤ bud.2.1) : zC D Wm ST b0 l Sg zM277 bud [(2, 205), (0, c)] μ (fun st' μ' => μ = μ' ∧ ∃ x, st' = [(0, x)] ∧ 0 ≤ x ∧ x ≤ 1) := by
  refine pm_blk hK zmm277 [] 2 3 [(2, 205), (0, c)] [(0, 59), (0, c)] μ [] rfl trivial ?_
  refine pm_icmp hK zmm277 .eq 57 60 rfl rfl (fun h0 => ?_) (fun h0 => ?_)
  · have h0 : c = (59 : Int) := h0
    refine pm_blk hK zmm277 [] 2 65 [(2, 205), (0, c)] [(0, 1)] μ [] rfl trivial ?_
    exact pm_zret rfl rfl (by first | exact Or.inl rfl | exact Or.inr rfl | omega) ⟨rfl, _, rfl, by omega, by omega⟩
  · have h0 : c ≠ (59 : Int) := h0
    refine pm_blk hK zmm277 [] 2 9 [(2, 205), (0, c)] [(0, 43), (0, c)] μ [] rfl trivial ?_
    refine pm_icmp hK zmm277 .eq 51 60 rfl rfl (fun h1 => ?_) (fun h1 => ?_)
    · have h1 : c = (43 : Int) := h1
      refine pm_blk hK zmm277 [] 2 65 [(2, 205), (0, c)] [(0, 1)] μ [] rfl trivial ?_
      exact pm_zret rfl rfl (by first | exact Or.inl rfl | exact Or.inr rfl | omega) ⟨rfl, _, rfl, by omega, by omega⟩
    · have h1 : c ≠ (43 : Int) := h1
      refine pm_blk hK zmm277 [] 2 15 [(2, 205), (0, c)] [(0, 45), (0, c)] μ [] rfl trivial ?_
      refine pm_icmp hK zmm277 .eq 45 60 rfl rfl (fun h2 => ?_) (fun h2 => ?_)
      · have h2 : c = (45 : Int) := h2
        refine pm_blk hK zmm277 [] 2 65 [(2, 205), (0, c)] [(0, 1)] μ [] rfl trivial ?_
        exact pm_zret rfl rfl (by first | exact Or.inl rfl | exact Or.inr rfl | omega) ⟨rfl, _, rfl, by omega, by omega⟩
      · have h2 : c ≠ (45 : Int) := h2
        refine pm_blk hK zmm277 [] 2 21 [(2, 205), (0, c)] [(0, 42), (0, c)] μ [] rfl trivial ?_
        refine pm_icmp hK zmm277 .eq 39 60 rfl rfl (fun h3 => ?_) (fun h3 => ?_)
        · have h3 : c = (42 : Int) := h3
          refine pm_blk hK zmm277 [] 2 65 [(2, 205), (0, c)] [(0, 1)] μ [] rfl trivial ?_
          exact pm_zret rfl rfl (by first | exact Or.inl rfl | exact Or.inr rfl | omega) ⟨rfl, _, rfl, by omega, by omega⟩
        · have h3 : c ≠ (42 : Int) := h3
          refine pm_blk hK zmm277 [] 2 27 [(2, 205), (0, c)] [(0, 47), (0, c)] μ [] rfl trivial ?_
          refine pm_icmp hK zmm277 .eq 33 60 rfl rfl (fun h4 => ?_) (fun h4 => ?_)
          · have h4 : c = (47 : Int) := h4
            refine pm_blk hK zmm277 [] 2 65 [(2, 205), (0, c)] [(0, 1)] μ [] rfl trivial ?_
            exact pm_zret rfl rfl (by first | exact Or.inl rfl | exact Or.inr rfl | omega) ⟨rfl, _, rfl, by omega, by omega⟩
          · have h4 : c ≠ (47 : Int) := h4
            refine pm_blk hK zmm277 [] 2 33 [(2, 205), (0, c)] [(0, 40), (0, c)] μ [] rfl trivial ?_
            refine pm_icmp hK zmm277 .eq 27 60 rfl rfl (fun h5 => ?_) (fun h5 => ?_)
            · have h5 : c = (40 : Int) := h5
              refine pm_blk hK zmm277 [] 2 65 [(2, 205), (0, c)] [(0, 1)] μ [] rfl trivial ?_
              exact pm_zret rfl rfl (by first | exact Or.inl rfl | exact Or.inr rfl | omega) ⟨rfl, _, rfl, by omega, by omega⟩
            · have h5 : c ≠ (40 : Int) := h5
              refine pm_blk hK zmm277 [] 2 39 [(2, 205), (0, c)] [(0, 41), (0, c)] μ [] rfl trivial ?_
              refine pm_icmp hK zmm277 .eq 21 60 rfl rfl (fun h6 => ?_) (fun h6 => ?_)
              · have h6 : c = (41 : Int) := h6
                refine pm_blk hK zmm277 [] 2 65 [(2, 205), (0, c)] [(0, 1)] μ [] rfl trivial ?_
                exact pm_zret rfl rfl (by first | exact Or.inl rfl | exact Or.inr rfl | omega) ⟨rfl, _, rfl, by omega, by omega⟩
              · have h6 : c ≠ (41 : Int) := h6
                refine pm_blk hK zmm277 [] 2 45 [(2, 205), (0, c)] [(0, 60), (0, c)] μ [] rfl trivial ?_
                refine pm_icmp hK zmm277 .eq 15 60 rfl rfl (fun h7 => ?_) (fun h7 => ?_)
                · have h7 : c = (60 : Int) := h7
                  refine pm_blk hK zmm277 [] 2 65 [(2, 205), (0, c)] [(0, 1)] μ [] rfl trivial ?_
                  exact pm_zret rfl rfl (by first | exact Or.inl rfl | exact Or.inr rfl | omega) ⟨rfl, _, rfl, by omega, by omega⟩
                · have h7 : c ≠ (60 : Int) := h7
                  refine pm_blk hK zmm277 [] 2 51 [(2, 205), (0, c)] [(0, 61), (0, c)] μ [] rfl trivial ?_
                  refine pm_icmp hK zmm277 .eq 9 60 rfl rfl (fun h8 => ?_) (fun h8 => ?_)
                  · have h8 : c = (61 : Int) := h8
                    refine pm_blk hK zmm277 [] 2 65 [(2, 205), (0, c)] [(0, 1)] μ [] rfl trivial ?_
                    exact pm_zret rfl rfl (by first | exact Or.inl rfl | exact Or.inr rfl | omega) ⟨rfl, _, rfl, by omega, by omega⟩
                  · have h8 : c ≠ (61 : Int) := h8
                    refine pm_blk hK zmm277 [] 2 57 [(2, 205), (0, c)] [(0, 62), (0, c)] μ [] rfl trivial ?_
                    refine pm_icmp hK zmm277 .ne 7 64 rfl rfl (fun h9 => ?_) (fun h9 => ?_)
                    · have h9 : c ≠ (62 : Int) := h9
                      refine pm_blk hK zmm277 [] 1 65 [(2, 205), (0, c)] [(0, 0)] μ [] rfl trivial ?_
                      exact pm_zret rfl rfl (by first | exact Or.inl rfl | exact Or.inr rfl | omega) ⟨rfl, _, rfl, by omega, by omega⟩
                    · have h9 : c = (62 : Int) := h9
                      refine pm_blk hK zmm277 [] 2 65 [(2, 205), (0, c)] [(0, 1)] μ [] rfl trivial ?_
                      exact pm_zret rfl rfl (by first | exact Or.inl rfl | exact Or.inr rfl | omega) ⟨rfl, _, rfl, by omega, by omega⟩
set_option maxRecDepth 100000 in
theorem zl_wa3 (hK : zKK ST) {X : Nat → List pm_V → List pm_V → pm_Mem → Prop} {μ0 : pm_Mem} {f w u k0 : Int} (hk0 : 0 ≤ k0) (hu : -1 ≤ u ∧ u ≤ 27) (K : ∀ (k : Int) (μ : pm_Mem), μ = μ0 → k0 < k → k ≤ 145 → zwd k.toNat = 32 → u + 1 = (zrank k.toNat : Int) → zW D Wm ST b0 l Sg zM275 bud X 5 [(2, 205), (0, f), (0, w), (0, u), (0, k), (9, 0)] [] μ) (hbd : 0 ≤ bud.1 ∧ 0 ≤ bud.2.1) : ∀ (n : Nat) {k : Int} {μ : pm_Mem}, (145 - k).toNat = n → ∀ (hμ : μ = μ0) (hT : zTJ μ) (hf : 0 ≤ f ∧ f ≤ w ∧ w ≤ 400) (hq : ∀ i : Int, f ≤ i → i < w → μ 211 i ≠ 32) (hk : k0 < k ∧ k ≤ 145) (hr : u + 1 = (zrank k.toNat : Int)), zW D Wm ST b0 l Sg zM275 bud X 94 [(2, 205), (0, f), (0, w), (0, u), (0, k), (9, 0)] [] μ := by
  intro n
  induction n using Nat.strongRecOn with
  | ind n ih =>
    intro k μ hn hμ hT hf hq hk hr
    subst hμ
    have hz := zwd_eq hT (i := k) (by omega) (by omega)
    refine pm_blk hK zmm275 [] 5 103 [(2, 205), (0, f), (0, w), (0, u), (0, k), (9, 0)] [(0, 32), (0, μ 212 k)] μ [0 ≤ k ∧ k < 146] rfl ⟨⟨by omega, by omega⟩, trivial⟩ ?_
    refine pm_icmp hK zmm275 .eq 12 115 rfl rfl (fun h0 => ?_) (fun h0 => ?_)
    · have h0 : μ 212 k = (32 : Int) := h0
      refine pm_blk hK zmm275 [] 1 5 [(2, 205), (0, f), (0, w), (0, u), (0, k), (9, 0)] [] μ [] rfl trivial ?_
      exact K k _ rfl (by omega) (by omega) (by rw [← hz]; exact h0) hr
    · have h0 : μ 212 k ≠ (32 : Int) := h0
      refine pm_blk hK zmm275 [] 5 94 [(2, 205), (0, f), (0, w), (0, u), (0, k + 1), (9, 0)] [] μ [pm_in (k + 1)] rfl ⟨pm_in_mk (by omega) (by omega), trivial⟩ ?_
      have hw : zwd k.toNat ≠ 32 := by rw [← hz]; exact h0
      have h145 : k ≠ 145 := fun he => hw (by rw [he]; exact zwd_145)
      refine ih _ (by omega) rfl rfl hT hf hq ⟨by omega, by omega⟩ ?_
      rw [show (k + 1).toNat = k.toNat + 1 by omega, zrank_n hw]; exact hr
set_option maxRecDepth 100000 in
theorem zl_wa2 (hK : zKK ST)  {μ0 : pm_Mem} {f w u k : Int} (hu : -1 ≤ u ∧ u ≤ 27) (hk : 0 ≤ k ∧ k < 145) (K : ∀ (μ : pm_Mem), μ = μ0 → zW D Wm ST b0 l Sg zM275 bud (pm_X zM275 (fun st' μ' => μ0 = μ' ∧ ∃ x, st' = [(0, x)] ∧ -1 ≤ x ∧ x ≤ 27)) 88 [(2, 205), (0, f), (0, w), (0, u), (0, k), (9, 0)] [] μ) (hbd : 0 ≤ bud.1 ∧ 0 ≤ bud.2.1) : ∀ (n : Nat) {j : Int} {μ : pm_Mem}, (w - f - j).toNat = n → ∀ (hμ : μ = μ0) (hT : zTJ μ) (hf : 0 ≤ f ∧ f ≤ w ∧ w ≤ 400) (hq : ∀ i : Int, f ≤ i → i < w → μ 211 i ≠ 32) (hj : 0 ≤ j ∧ f + j ≤ w) (hz : ∀ i : Int, 0 ≤ i → i < j → μ 212 (k + 1 + i) ≠ 32), zW D Wm ST b0 l Sg zM275 bud (pm_X zM275 (fun st' μ' => μ0 = μ' ∧ ∃ x, st' = [(0, x)] ∧ -1 ≤ x ∧ x ≤ 27)) 20 [(2, 205), (0, f), (0, w), (0, u), (0, k), (0, j)] [] μ := by
  intro n
  induction n using Nat.strongRecOn with
  | ind n ih =>
    intro j μ hn hμ hT hf hq hj hz
    subst hμ
    have hend : μ 212 145 = 32 := by rw [zwd_eq hT (by decide) (by decide)]; exact zwd_145
    have hb : k + 1 + j ≤ 145 := by
      by_cases h : k + 1 + j ≤ 145
      · exact h
      · have h2 := hz (144 - k) (by omega) (by omega)
        rw [show k + 1 + (144 - k) = 145 by omega] at h2
        exact absurd hend h2
    refine pm_blk hK zmm275 [] 4 25 [(2, 205), (0, f), (0, w), (0, u), (0, k), (0, j)] [(0, w), (0, f + j)] μ [pm_in (f + j)] rfl ⟨pm_in_mk (by omega) (by omega), trivial⟩ ?_
    refine pm_icmp hK zmm275 .ge 36 61 rfl rfl (fun h0 => ?_) (fun h0 => ?_)
    · have h0 : w ≤ f + j := h0
      refine pm_blk hK zmm275 [] 4 66 [(2, 205), (0, f), (0, w), (0, u), (0, k), (0, j)] [(0, w), (0, f + j)] μ [pm_in (f + j)] rfl ⟨pm_in_mk (by omega) (by omega), trivial⟩ ?_
      refine pm_icmp hK zmm275 .ne 22 88 rfl rfl (fun h1 => ?_) (fun h1 => ?_)
      · have h1 : f + j ≠ w := h1
        refine pm_hide [5] ?_
        exact K _ rfl
      · have h1 : f + j = w := h1
        refine pm_blk hK zmm275 [] 9 83 [(2, 205), (0, f), (0, w), (0, u), (0, k), (0, j)] [(0, 32), (0, μ 212 ((k + 1) + j))] μ [pm_in (k + 1), pm_in ((k + 1) + j), 0 ≤ (k + 1) + j ∧ (k + 1) + j < 146] rfl ⟨pm_in_mk (by omega) (by omega), pm_in_mk (by omega) (by omega), ⟨by omega, by omega⟩, trivial⟩ ?_
        refine pm_icmp hK zmm275 .ne 5 88 rfl rfl (fun h2 => ?_) (fun h2 => ?_)
        · have h2 : μ 212 ((k + 1) + j) ≠ (32 : Int) := h2
          refine pm_hide [5] ?_
          exact K _ rfl
        · have h2 : μ 212 ((k + 1) + j) = (32 : Int) := h2
          refine pm_blk hK zmm275 [] 1 87 [(2, 205), (0, f), (0, w), (0, u), (0, k), (0, j)] [(0, u)] μ [] rfl trivial ?_
          exact pm_iret rfl rfl ⟨rfl, _, rfl, by omega, by omega⟩
    · have h0 : f + j < w := h0
      have f1 := zT_get hT zs211_0 (i := f + j) (by omega) (by omega)
      refine pm_blk hK zmm275 [] 14 49 [(2, 205), (0, f), (0, w), (0, u), (0, k), (0, j)] [(0, μ 211 (f + j)), (0, μ 212 ((k + 1) + j))] μ [pm_in (k + 1), pm_in ((k + 1) + j), 0 ≤ (k + 1) + j ∧ (k + 1) + j < 146, pm_in (f + j), 0 ≤ f + j ∧ f + j < 400] rfl ⟨pm_in_mk (by omega) (by omega), pm_in_mk (by omega) (by omega), ⟨by omega, by omega⟩, pm_in_mk (by omega) (by omega), ⟨by omega, by omega⟩, trivial⟩ ?_
      refine pm_icmp hK zmm275 .ne 12 61 rfl rfl (fun h3 => ?_) (fun h3 => ?_)
      · have h3 : μ 212 ((k + 1) + j) ≠ μ 211 (f + j) := h3
        refine pm_blk hK zmm275 [] 4 66 [(2, 205), (0, f), (0, w), (0, u), (0, k), (0, j)] [(0, w), (0, f + j)] μ [pm_in (f + j)] rfl ⟨pm_in_mk (by omega) (by omega), trivial⟩ ?_
        refine pm_icmp hK zmm275 .ne 22 88 rfl rfl (fun h4 => ?_) (fun h4 => ?_)
        · have h4 : f + j ≠ w := h4
          refine pm_hide [5] ?_
          exact K _ rfl
        · have h4 : f + j = w := h4
          refine pm_blk hK zmm275 [] 9 83 [(2, 205), (0, f), (0, w), (0, u), (0, k), (0, j)] [(0, 32), (0, μ 212 ((k + 1) + j))] μ [pm_in (k + 1), pm_in ((k + 1) + j), 0 ≤ (k + 1) + j ∧ (k + 1) + j < 146] rfl ⟨pm_in_mk (by omega) (by omega), pm_in_mk (by omega) (by omega), ⟨by omega, by omega⟩, trivial⟩ ?_
          refine pm_icmp hK zmm275 .ne 5 88 rfl rfl (fun h5 => ?_) (fun h5 => ?_)
          · have h5 : μ 212 ((k + 1) + j) ≠ (32 : Int) := h5
            refine pm_hide [5] ?_
            exact K _ rfl
          · have h5 : μ 212 ((k + 1) + j) = (32 : Int) := h5
            refine pm_blk hK zmm275 [] 1 87 [(2, 205), (0, f), (0, w), (0, u), (0, k), (0, j)] [(0, u)] μ [] rfl trivial ?_
            exact pm_iret rfl rfl ⟨rfl, _, rfl, by omega, by omega⟩
      · have h3 : μ 212 ((k + 1) + j) = μ 211 (f + j) := h3
        refine pm_blk hK zmm275 [] 5 20 [(2, 205), (0, f), (0, w), (0, u), (0, k), (0, j + 1)] [] μ [pm_in (j + 1)] rfl ⟨pm_in_mk (by omega) (by omega), trivial⟩ ?_
        refine ih _ (by omega) rfl rfl hT hf hq ⟨by omega, by omega⟩ (fun i i0 i1 => ?_)
        by_cases hi : i = j
        · rw [hi]; have h9 := h3; rw [h9]; exact hq _ (by omega) (by omega)
        · exact hz i i0 (by omega)
set_option maxRecDepth 100000 in
theorem zl_wa1 (hK : zKK ST)  {μ0 : pm_Mem} {f w : Int} (hbd : 0 ≤ bud.1 ∧ 0 ≤ bud.2.1) : ∀ (n : Nat) {u k : Int} {μ : pm_Mem}, (145 - k).toNat = n → ∀ (hμ : μ = μ0) (hT : zTJ μ) (hf : 0 ≤ f ∧ f ≤ w ∧ w ≤ 400) (hq : ∀ i : Int, f ≤ i → i < w → μ 211 i ≠ 32) (hk : 0 ≤ k ∧ k ≤ 145) (hw : zwd k.toNat = 32) (hr : u + 1 = (zrank k.toNat : Int)), zW D Wm ST b0 l Sg zM275 bud (pm_X zM275 (fun st' μ' => μ0 = μ' ∧ ∃ x, st' = [(0, x)] ∧ -1 ≤ x ∧ x ≤ 27)) 5 [(2, 205), (0, f), (0, w), (0, u), (0, k), (9, 0)] [] μ := by
  intro n
  induction n using Nat.strongRecOn with
  | ind n ih =>
    intro u k μ hn hμ hT hf hq hk hw hr
    subst hμ
    have hrk := zrank_mono (a := k.toNat) (b := 145) (by omega)
    rw [zrank_145] at hrk
    refine pm_blk hK zmm275 [] 2 10 [(2, 205), (0, f), (0, w), (0, u), (0, k), (9, 0)] [(0, 145), (0, k)] μ [] rfl trivial ?_
    refine pm_icmp hK zmm275 .ge 108 118 rfl rfl (fun h0 => ?_) (fun h0 => ?_)
    · have h0 : (145 : Int) ≤ k := h0
      refine pm_blk hK zmm275 [] 1 119 [(2, 205), (0, f), (0, w), (0, u), (0, k), (9, 0)] [(0, (-1))] μ [] rfl trivial ?_
      exact pm_iret rfl rfl ⟨rfl, _, rfl, by omega, by omega⟩
    · have h0 : k < (145 : Int) := h0
      have hr27 := zrank_le (k := k.toNat) (by omega) hw
      refine pm_blk hK zmm275 [] 6 20 [(2, 205), (0, f), (0, w), (0, u + 1), (0, k), (0, 0)] [] μ [pm_in (u + 1)] rfl ⟨pm_in_mk (by omega) (by omega), trivial⟩ ?_
      refine zl_wa2 hK (μ0 := μ) (u := u + 1) ⟨by omega, by omega⟩ ⟨by omega, by omega⟩ (fun μ2 e2 => ?_) hbd _ (j := 0) rfl rfl hT hf hq ⟨by omega, by omega⟩ (fun i i0 i1 => absurd i1 (by omega))
      subst e2
      refine pm_blk hK zmm275 [] 4 94 [(2, 205), (0, f), (0, w), (0, u + 1), (0, k + 1), (9, 0)] [] μ2 [pm_in (k + 1)] rfl ⟨pm_in_mk (by omega) (by omega), trivial⟩ ?_
      refine zl_wa3 hK (μ0 := μ2) (u := u + 1) (k0 := k) (by omega) ⟨by omega, by omega⟩ (fun k3 μ3 e3 q1 q2 q3 q4 => ?_) hbd _ rfl rfl hT hf hq ⟨by omega, by omega⟩ (by rw [show (k + 1).toNat = k.toNat + 1 by omega, zrank_b hw]; omega)
      subst e3
      exact ih _ (by omega) rfl rfl hT hf hq ⟨by omega, by omega⟩ q3 q4
set_option maxRecDepth 100000 in
theorem zh_wordAt (hK : zKK ST) {f w : Int} (hT : zTJ μ) (hf : 0 ≤ f ∧ f ≤ w ∧ w ≤ 400) (hq : ∀ i : Int, f ≤ i → i < w → μ 211 i ≠ 32) (hbd : 0 ≤ bud.1 ∧ 0 ≤ bud.2.1) : zC D Wm ST b0 l Sg zM275 bud [(2, 205), (0, f), (0, w)] μ (fun st' μ' => μ = μ' ∧ ∃ x, st' = [(0, x)] ∧ -1 ≤ x ∧ x ≤ 27) := by
  refine pm_blk hK zmm275 [] 4 5 [(2, 205), (0, f), (0, w), (0, (-1)), (0, 0), (9, 0)] [] μ [] rfl trivial ?_
  exact zl_wa1 hK (μ0 := μ) hbd _ (k := 0) (u := -1) rfl rfl hT hf hq ⟨by omega, by omega⟩ zwd_0 rfl
end ZHW
