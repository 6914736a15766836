/-! tokens: the reference words; walks printed by program (wip/p30/pmgen.py) and filled by hand -/
section ZHW
variable {φ : Option pm_Mem}
variable {D : va_G} {Wm : Nat} {ST : List (String × String × String × Nat)} {b0 : sx_B} {l : Launch} {Sg : Nat → Option Nat} {bud : sx_Bu} {μ : pm_Mem} {B0 : Nat → Prop} {J : (Nat → Option Nat) → Heap → Prop}
set_option maxRecDepth 100000 in
theorem zt_raw (hK : zKK ST) {i : Int} (hT : zTJ φ μ) (hi : 0 ≤ i) (hbd : 0 ≤ bud.1 ∧ 0 ≤ bud.2.1) : zC D Wm ST b0 l Sg zM140 bud [(2, 205), (0, i)] μ (fun st' μ' => μ = μ' ∧ ∃ x, st' = [(0, x)] ∧ ((i < μ 205 11 ∧ x = μ 211 i ∧ 0 ≤ x ∧ x ≤ 255) ∨ (μ 205 11 ≤ i ∧ x = -1))) := by
  have f1 := zT_get hT zs205_11 (i := 11) (by omega) (by omega)
  refine pm_blk hK zmm140 [] 3 5 [(2, 205), (0, i)] [(0, μ 205 11), (0, i)] μ [] rfl trivial ?_
  refine pm_icmp hK zmm140 .ge 12 17 rfl rfl (fun h0 => ?_) (fun h0 => ?_)
  · have h0 : μ 205 11 ≤ i := h0
    refine pm_blk hK zmm140 [] 1 18 [(2, 205), (0, i)] [(0, (-1))] μ [] rfl trivial ?_
    exact pm_iret rfl rfl ⟨rfl, _, rfl, by omega⟩
  · have h0 : i < μ 205 11 := h0
    have f2 := zT_get hT zs211_0 (i := i) (by omega) (by omega)
    refine pm_blk hK zmm140 [] 5 18 [(2, 205), (0, i)] [(0, μ 211 i)] μ [0 ≤ i ∧ i < 400] rfl ⟨⟨by omega, by omega⟩, trivial⟩ ?_
    exact pm_iret rfl rfl ⟨rfl, _, rfl, by omega⟩
set_option maxRecDepth 100000 in
theorem zt_isLm (hK : zKK ST) {c : Int} (hbd : 1 ≤ bud.1 ∧ 23 ≤ bud.2.1) : zC D Wm ST b0 l Sg zM274 bud [(2, 205), (0, c)] μ (fun st' μ' => μ = μ' ∧ ∃ x, st' = [(0, x)] ∧ ((x = 1 ∧ zbL c) ∨ (x = 0 ∧ ¬ zbL c))) := by
  refine pm_blk hK zmm274 [] 4 6 [(2, 205), (0, c)] [(0, 122), (0, 97), (0, c), (2, 205)] μ [] rfl trivial ?_
  refine pm_call hK zmm274 (158, 0, 129, 3) zM129 (0, 0) [(2, 205), (0, c), (0, 97), (0, 122)] [] rfl rfl rfl rfl ⟨by omega, by rw [zn129]; omega⟩ (zh_isIn hK ⟨by omega, by omega⟩) (fun st1 μc1 hp1 => ?_)
  obtain ⟨rfl, rfl⟩ := hp1
  refine pm_if hK zmm274 .ne 15 24 rfl rfl (fun h0 => ?_) (fun h0 => ?_)
  · have h0 : (if 97 ≤ c ∧ c ≤ 122 then 1 else 0 : Int) ≠ (0 : Int) := h0
    have h0 := zif1 h0
    refine pm_blk hK zmm274 [] 2 29 [(2, 205), (0, c)] [(0, 1)] μ [] rfl trivial ?_
    exact pm_zret rfl rfl (by first | exact Or.inl rfl | exact Or.inr rfl | omega) ⟨rfl, _, rfl, by omega⟩
  · have h0 : (if 97 ≤ c ∧ c ≤ 122 then 1 else 0 : Int) = (0 : Int) := h0
    have h0 := zif0 h0
    refine pm_blk hK zmm274 [] 4 18 [(2, 205), (0, c)] [(0, 90), (0, 65), (0, c), (2, 205)] μ [] rfl trivial ?_
    refine pm_call hK zmm274 (158, 0, 129, 3) zM129 (0, 0) [(2, 205), (0, c), (0, 65), (0, 90)] [] rfl rfl rfl rfl ⟨by omega, by rw [zn129]; omega⟩ (zh_isIn hK ⟨by omega, by omega⟩) (fun st2 μc2 hp2 => ?_)
    obtain ⟨rfl, rfl⟩ := hp2
    refine pm_if hK zmm274 .eq 7 28 rfl rfl (fun h1 => ?_) (fun h1 => ?_)
    · have h1 : (if 65 ≤ c ∧ c ≤ 90 then 1 else 0 : Int) = (0 : Int) := h1
      have h1 := zif0 h1
      refine pm_blk hK zmm274 [] 1 29 [(2, 205), (0, c)] [(0, 0)] μ [] rfl trivial ?_
      exact pm_zret rfl rfl (by first | exact Or.inl rfl | exact Or.inr rfl | omega) ⟨rfl, _, rfl, by omega⟩
    · have h1 : (if 65 ≤ c ∧ c ≤ 90 then 1 else 0 : Int) ≠ (0 : Int) := h1
      have h1 := zif1 h1
      refine pm_blk hK zmm274 [] 2 29 [(2, 205), (0, c)] [(0, 1)] μ [] rfl trivial ?_
      exact pm_zret rfl rfl (by first | exact Or.inl rfl | exact Or.inr rfl | omega) ⟨rfl, _, rfl, by omega⟩
set_option maxRecDepth 100000 in
theorem zt_isDm (hK : zKK ST) {c : Int} (hbd : 1 ≤ bud.1 ∧ 23 ≤ bud.2.1) : zC D Wm ST b0 l Sg zM276 bud [(2, 205), (0, c)] μ (fun st' μ' => μ = μ' ∧ ∃ x, st' = [(0, x)] ∧ ((x = 1 ∧ zbD c) ∨ (x = 0 ∧ ¬ zbD c))) := by
  refine pm_blk hK zmm276 [] 4 6 [(2, 205), (0, c)] [(0, 57), (0, 48), (0, c), (2, 205)] μ [] rfl trivial ?_
  refine pm_call hK zmm276 (158, 0, 129, 3) zM129 (0, 0) [(2, 205), (0, c), (0, 48), (0, 57)] [] rfl rfl rfl rfl ⟨by omega, by rw [zn129]; omega⟩ (zh_isIn hK ⟨by omega, by omega⟩) (fun st1 μc1 hp1 => ?_)
  obtain ⟨rfl, rfl⟩ := hp1
  rcases zif01 (48 ≤ c ∧ c ≤ 57) with q | q
  · have q2 := zif0 q; rw [q]; exact pm_zret rfl rfl (by first | exact Or.inl rfl | exact Or.inr rfl | omega) ⟨rfl, _, rfl, by omega⟩
  · have q2 := zif1 (P := 48 ≤ c ∧ c ≤ 57) (by omega); rw [q]; exact pm_zret rfl rfl (by first | exact Or.inl rfl | exact Or.inr rfl | omega) ⟨rfl, _, rfl, by omega⟩
set_option maxRecDepth 100000 in
theorem zt_isSm (hK : zKK ST) {c : Int} (hbd : 0 ≤ bud.1 ∧ 0 ≤ bud.2.1) : zC D Wm ST b0 l Sg zM277 bud [(2, 205), (0, c)] μ (fun st' μ' => μ = μ' ∧ ∃ x, st' = [(0, x)] ∧ ((x = 1 ∧ zbS c) ∨ (x = 0 ∧ ¬ zbS c))) := by
  refine pm_blk hK zmm277 [] 2 3 [(2, 205), (0, c)] [(0, 59), (0, c)] μ [] rfl trivial ?_
  refine pm_icmp hK zmm277 .eq 57 60 rfl rfl (fun h0 => ?_) (fun h0 => ?_)
  · have h0 : c = (59 : Int) := h0
    refine pm_blk hK zmm277 [] 2 65 [(2, 205), (0, c)] [(0, 1)] μ [] rfl trivial ?_
    exact pm_zret rfl rfl (by first | exact Or.inl rfl | exact Or.inr rfl | omega) ⟨rfl, _, rfl, by omega⟩
  · have h0 : c ≠ (59 : Int) := h0
    refine pm_blk hK zmm277 [] 2 9 [(2, 205), (0, c)] [(0, 43), (0, c)] μ [] rfl trivial ?_
    refine pm_icmp hK zmm277 .eq 51 60 rfl rfl (fun h1 => ?_) (fun h1 => ?_)
    · have h1 : c = (43 : Int) := h1
      refine pm_blk hK zmm277 [] 2 65 [(2, 205), (0, c)] [(0, 1)] μ [] rfl trivial ?_
      exact pm_zret rfl rfl (by first | exact Or.inl rfl | exact Or.inr rfl | omega) ⟨rfl, _, rfl, by omega⟩
    · have h1 : c ≠ (43 : Int) := h1
      refine pm_blk hK zmm277 [] 2 15 [(2, 205), (0, c)] [(0, 45), (0, c)] μ [] rfl trivial ?_
      refine pm_icmp hK zmm277 .eq 45 60 rfl rfl (fun h2 => ?_) (fun h2 => ?_)
      · have h2 : c = (45 : Int) := h2
        refine pm_blk hK zmm277 [] 2 65 [(2, 205), (0, c)] [(0, 1)] μ [] rfl trivial ?_
        exact pm_zret rfl rfl (by first | exact Or.inl rfl | exact Or.inr rfl | omega) ⟨rfl, _, rfl, by omega⟩
      · have h2 : c ≠ (45 : Int) := h2
        refine pm_blk hK zmm277 [] 2 21 [(2, 205), (0, c)] [(0, 42), (0, c)] μ [] rfl trivial ?_
        refine pm_icmp hK zmm277 .eq 39 60 rfl rfl (fun h3 => ?_) (fun h3 => ?_)
        · have h3 : c = (42 : Int) := h3
          refine pm_blk hK zmm277 [] 2 65 [(2, 205), (0, c)] [(0, 1)] μ [] rfl trivial ?_
          exact pm_zret rfl rfl (by first | exact Or.inl rfl | exact Or.inr rfl | omega) ⟨rfl, _, rfl, by omega⟩
        · have h3 : c ≠ (42 : Int) := h3
          refine pm_blk hK zmm277 [] 2 27 [(2, 205), (0, c)] [(0, 47), (0, c)] μ [] rfl trivial ?_
          refine pm_icmp hK zmm277 .eq 33 60 rfl rfl (fun h4 => ?_) (fun h4 => ?_)
          · have h4 : c = (47 : Int) := h4
            refine pm_blk hK zmm277 [] 2 65 [(2, 205), (0, c)] [(0, 1)] μ [] rfl trivial ?_
            exact pm_zret rfl rfl (by first | exact Or.inl rfl | exact Or.inr rfl | omega) ⟨rfl, _, rfl, by omega⟩
          · have h4 : c ≠ (47 : Int) := h4
            refine pm_blk hK zmm277 [] 2 33 [(2, 205), (0, c)] [(0, 40), (0, c)] μ [] rfl trivial ?_
            refine pm_icmp hK zmm277 .eq 27 60 rfl rfl (fun h5 => ?_) (fun h5 => ?_)
            · have h5 : c = (40 : Int) := h5
              refine pm_blk hK zmm277 [] 2 65 [(2, 205), (0, c)] [(0, 1)] μ [] rfl trivial ?_
              exact pm_zret rfl rfl (by first | exact Or.inl rfl | exact Or.inr rfl | omega) ⟨rfl, _, rfl, by omega⟩
            · have h5 : c ≠ (40 : Int) := h5
              refine pm_blk hK zmm277 [] 2 39 [(2, 205), (0, c)] [(0, 41), (0, c)] μ [] rfl trivial ?_
              refine pm_icmp hK zmm277 .eq 21 60 rfl rfl (fun h6 => ?_) (fun h6 => ?_)
              · have h6 : c = (41 : Int) := h6
                refine pm_blk hK zmm277 [] 2 65 [(2, 205), (0, c)] [(0, 1)] μ [] rfl trivial ?_
                exact pm_zret rfl rfl (by first | exact Or.inl rfl | exact Or.inr rfl | omega) ⟨rfl, _, rfl, by omega⟩
              · have h6 : c ≠ (41 : Int) := h6
                refine pm_blk hK zmm277 [] 2 45 [(2, 205), (0, c)] [(0, 60), (0, c)] μ [] rfl trivial ?_
                refine pm_icmp hK zmm277 .eq 15 60 rfl rfl (fun h7 => ?_) (fun h7 => ?_)
                · have h7 : c = (60 : Int) := h7
                  refine pm_blk hK zmm277 [] 2 65 [(2, 205), (0, c)] [(0, 1)] μ [] rfl trivial ?_
                  exact pm_zret rfl rfl (by first | exact Or.inl rfl | exact Or.inr rfl | omega) ⟨rfl, _, rfl, by omega⟩
                · have h7 : c ≠ (60 : Int) := h7
                  refine pm_blk hK zmm277 [] 2 51 [(2, 205), (0, c)] [(0, 61), (0, c)] μ [] rfl trivial ?_
                  refine pm_icmp hK zmm277 .eq 9 60 rfl rfl (fun h8 => ?_) (fun h8 => ?_)
                  · have h8 : c = (61 : Int) := h8
                    refine pm_blk hK zmm277 [] 2 65 [(2, 205), (0, c)] [(0, 1)] μ [] rfl trivial ?_
                    exact pm_zret rfl rfl (by first | exact Or.inl rfl | exact Or.inr rfl | omega) ⟨rfl, _, rfl, by omega⟩
                  · have h8 : c ≠ (61 : Int) := h8
                    refine pm_blk hK zmm277 [] 2 57 [(2, 205), (0, c)] [(0, 62), (0, c)] μ [] rfl trivial ?_
                    refine pm_icmp hK zmm277 .ne 7 64 rfl rfl (fun h9 => ?_) (fun h9 => ?_)
                    · have h9 : c ≠ (62 : Int) := h9
                      refine pm_blk hK zmm277 [] 1 65 [(2, 205), (0, c)] [(0, 0)] μ [] rfl trivial ?_
                      exact pm_zret rfl rfl (by first | exact Or.inl rfl | exact Or.inr rfl | omega) ⟨rfl, _, rfl, by omega⟩
                    · have h9 : c = (62 : Int) := h9
                      refine pm_blk hK zmm277 [] 2 65 [(2, 205), (0, c)] [(0, 1)] μ [] rfl trivial ?_
                      exact pm_zret rfl rfl (by first | exact Or.inl rfl | exact Or.inr rfl | omega) ⟨rfl, _, rfl, by omega⟩
set_option maxRecDepth 100000 in
theorem zt_wa2 (hK : zKK ST)  {μ0 : pm_Mem} {f w u k : Int} (hu : u = (zrank k.toNat : Int)) (hk : 0 ≤ k ∧ k < 145) (hkw : zwd k.toNat = 32) (K : ∀ (μ : pm_Mem), μ = μ0 → ¬ zWr (zrank k.toNat) (μ0 211) f w → zW D Wm ST b0 l Sg zM275 bud (pm_X zM275 (fun st' μ' => μ0 = μ' ∧ ∃ x, st' = [(0, x)] ∧ ((∃ v : Nat, v < 28 ∧ x = zwM (v : Int) ∧ zWm v (μ0 211) f w) ∨ (x = -1 ∧ ∀ v : Nat, v < 28 → ¬ zWm v (μ0 211) f w)))) 88 [(2, 205), (0, f), (0, w), (0, u), (0, k), (9, 0)] [] μ) (hbd : 0 ≤ bud.1 ∧ 0 ≤ bud.2.1) : ∀ (n : Nat) {j : Int} {μ : pm_Mem}, (w - f - j).toNat = n → ∀ (hμ : μ = μ0) (hT : zTJ φ μ) (hf : 0 ≤ f ∧ f ≤ w ∧ w ≤ 400) (hq : ∀ i : Int, f ≤ i → i < w → μ 211 i ≠ 32) (hj : 0 ≤ j ∧ f + j ≤ w ∧ j ≤ (zvl (zrank k.toNat) : Int)) (hm : ∀ i : Int, 0 ≤ i → i < j → μ 211 (f + i) = zwd (k + 1 + i).toNat), zW D Wm ST b0 l Sg zM275 bud (pm_X zM275 (fun st' μ' => μ0 = μ' ∧ ∃ x, st' = [(0, x)] ∧ ((∃ v : Nat, v < 28 ∧ x = zwM (v : Int) ∧ zWm v (μ0 211) f w) ∨ (x = -1 ∧ ∀ v : Nat, v < 28 → ¬ zWm v (μ0 211) f w)))) 20 [(2, 205), (0, f), (0, w), (0, u), (0, k), (0, j)] [] μ := by
  intro n
  induction n using Nat.strongRecOn with
  | ind n ih =>
    intro j μ hn hμ hT hf hq hj hm
    subst hμ
    obtain ⟨c1, c2, c3, c4⟩ := zvb_ck k.toNat (by omega) hkw
    have c5 := zvb_nb k.toNat (by omega) hkw
    have ez := zwd_eq hT (i := k + 1 + j) (by omega) (by omega)
    refine pm_blk hK zmm275 [] 4 25 [(2, 205), (0, f), (0, w), (0, u), (0, k), (0, j)] [(0, w), (0, f + j)] μ [pm_in (f + j)] rfl ⟨pm_in_mk (by omega) (by omega), trivial⟩ ?_
    refine pm_icmp hK zmm275 .ge 36 61 rfl rfl (fun h0 => ?_) (fun h0 => ?_)
    · have h0 : w ≤ f + j := h0
      refine pm_blk hK zmm275 [] 4 66 [(2, 205), (0, f), (0, w), (0, u), (0, k), (0, j)] [(0, w), (0, f + j)] μ [pm_in (f + j)] rfl ⟨pm_in_mk (by omega) (by omega), trivial⟩ ?_
      refine pm_icmp hK zmm275 .ne 22 88 rfl rfl (fun h1 => ?_) (fun h1 => ?_)
      · have h1 : f + j ≠ w := h1
        refine pm_hide [5] ?_
        refine K _ rfl (fun hr => ?_)
        obtain ⟨r1, r2⟩ := hr
        have h9 := h1
        first
        | omega
        | (rw [ez] at h9
           have h7 := r2 j.toNat (by omega)
           rw [c2, show f + ((j.toNat : Nat) : Int) = f + j by omega, show k.toNat + 1 + j.toNat = (k + 1 + j).toNat by omega] at h7
           exact h9 h7.symm)
        | (have h9 := h3
           rw [ez] at h9
           have h7 := r2 j.toNat (by omega)
           rw [c2, show f + ((j.toNat : Nat) : Int) = f + j by omega, show k.toNat + 1 + j.toNat = (k + 1 + j).toNat by omega] at h7
           exact h9 h7.symm)
        | (rw [ez] at h9
           rw [show (k + 1 + j).toNat = k.toNat + 1 + zvl (zrank k.toNat) by omega, c4] at h9
           exact h9 rfl)
        | (exfalso; omega)
      · have h1 : f + j = w := h1
        refine pm_blk hK zmm275 [] 9 83 [(2, 205), (0, f), (0, w), (0, u), (0, k), (0, j)] [(0, 32), (0, μ 212 ((k + 1) + j))] μ [pm_in (k + 1), pm_in ((k + 1) + j), 0 ≤ (k + 1) + j ∧ (k + 1) + j < 146] rfl ⟨pm_in_mk (by omega) (by omega), pm_in_mk (by omega) (by omega), ⟨by omega, by omega⟩, trivial⟩ ?_
        refine pm_icmp hK zmm275 .ne 5 88 rfl rfl (fun h2 => ?_) (fun h2 => ?_)
        · have h2 : μ 212 ((k + 1) + j) ≠ (32 : Int) := h2
          refine pm_hide [5] ?_
          refine K _ rfl (fun hr => ?_)
          obtain ⟨r1, r2⟩ := hr
          have h9 := h2
          first
          | omega
          | (rw [ez] at h9
             have h7 := r2 j.toNat (by omega)
             rw [c2, show f + ((j.toNat : Nat) : Int) = f + j by omega, show k.toNat + 1 + j.toNat = (k + 1 + j).toNat by omega] at h7
             exact h9 h7.symm)
          | (have h9 := h3
             rw [ez] at h9
             have h7 := r2 j.toNat (by omega)
             rw [c2, show f + ((j.toNat : Nat) : Int) = f + j by omega, show k.toNat + 1 + j.toNat = (k + 1 + j).toNat by omega] at h7
             exact h9 h7.symm)
          | (rw [ez] at h9
             rw [show (k + 1 + j).toNat = k.toNat + 1 + zvl (zrank k.toNat) by omega, c4] at h9
             exact h9 rfl)
          | (exfalso; omega)
        · have h2 : μ 212 ((k + 1) + j) = (32 : Int) := h2
          refine pm_blk hK zmm275 [] 1 87 [(2, 205), (0, f), (0, w), (0, u), (0, k), (0, j)] [(0, u)] μ [] rfl trivial ?_
          have h9 := h2
          rw [ez] at h9
          have hjl : j = (zvl (zrank k.toNat) : Int) := by
            by_cases h8 : j = (zvl (zrank k.toNat) : Int)
            · exact h8
            · exfalso
              have h7 := c5 j.toNat (by omega)
              rw [show k.toNat + 1 + j.toNat = (k + 1 + j).toNat by omega] at h7
              exact h7 h9
          obtain ⟨v, v1, v2, v3⟩ := zWr_y (T := μ 211) (s := f) (q := w) c1 ⟨by omega, fun i hi => by rw [hm i (by omega) (by omega), c2, show (k + 1 + (i : Int)).toNat = k.toNat + 1 + i by omega]⟩
          exact pm_iret rfl rfl ⟨rfl, _, rfl, Or.inl ⟨v, v1, by rw [hu]; exact v2, v3⟩⟩
    · have h0 : f + j < w := h0
      have f1 := zT_get hT zs211_0 (i := f + j) (by omega) (by omega)
      refine pm_blk hK zmm275 [] 14 49 [(2, 205), (0, f), (0, w), (0, u), (0, k), (0, j)] [(0, μ 211 (f + j)), (0, μ 212 ((k + 1) + j))] μ [pm_in (k + 1), pm_in ((k + 1) + j), 0 ≤ (k + 1) + j ∧ (k + 1) + j < 146, pm_in (f + j), 0 ≤ f + j ∧ f + j < 400] rfl ⟨pm_in_mk (by omega) (by omega), pm_in_mk (by omega) (by omega), ⟨by omega, by omega⟩, pm_in_mk (by omega) (by omega), ⟨by omega, by omega⟩, trivial⟩ ?_
      refine pm_icmp hK zmm275 .ne 12 61 rfl rfl (fun h3 => ?_) (fun h3 => ?_)
      · have h3 : μ 212 ((k + 1) + j) ≠ μ 211 (f + j) := h3
        refine pm_blk hK zmm275 [] 4 66 [(2, 205), (0, f), (0, w), (0, u), (0, k), (0, j)] [(0, w), (0, f + j)] μ [pm_in (f + j)] rfl ⟨pm_in_mk (by omega) (by omega), trivial⟩ ?_
        refine pm_icmp hK zmm275 .ne 22 88 rfl rfl (fun h4 => ?_) (fun h4 => ?_)
        · have h4 : f + j ≠ w := h4
          refine pm_hide [5] ?_
          refine K _ rfl (fun hr => ?_)
          obtain ⟨r1, r2⟩ := hr
          have h9 := h4
          first
          | omega
          | (rw [ez] at h9
             have h7 := r2 j.toNat (by omega)
             rw [c2, show f + ((j.toNat : Nat) : Int) = f + j by omega, show k.toNat + 1 + j.toNat = (k + 1 + j).toNat by omega] at h7
             exact h9 h7.symm)
          | (have h9 := h3
             rw [ez] at h9
             have h7 := r2 j.toNat (by omega)
             rw [c2, show f + ((j.toNat : Nat) : Int) = f + j by omega, show k.toNat + 1 + j.toNat = (k + 1 + j).toNat by omega] at h7
             exact h9 h7.symm)
          | (rw [ez] at h9
             rw [show (k + 1 + j).toNat = k.toNat + 1 + zvl (zrank k.toNat) by omega, c4] at h9
             exact h9 rfl)
          | (exfalso; omega)
        · have h4 : f + j = w := h4
          refine pm_blk hK zmm275 [] 9 83 [(2, 205), (0, f), (0, w), (0, u), (0, k), (0, j)] [(0, 32), (0, μ 212 ((k + 1) + j))] μ [pm_in (k + 1), pm_in ((k + 1) + j), 0 ≤ (k + 1) + j ∧ (k + 1) + j < 146] rfl ⟨pm_in_mk (by omega) (by omega), pm_in_mk (by omega) (by omega), ⟨by omega, by omega⟩, trivial⟩ ?_
          refine pm_icmp hK zmm275 .ne 5 88 rfl rfl (fun h5 => ?_) (fun h5 => ?_)
          · have h5 : μ 212 ((k + 1) + j) ≠ (32 : Int) := h5
            refine pm_hide [5] ?_
            refine K _ rfl (fun hr => ?_)
            obtain ⟨r1, r2⟩ := hr
            have h9 := h5
            first
            | omega
            | (rw [ez] at h9
               have h7 := r2 j.toNat (by omega)
               rw [c2, show f + ((j.toNat : Nat) : Int) = f + j by omega, show k.toNat + 1 + j.toNat = (k + 1 + j).toNat by omega] at h7
               exact h9 h7.symm)
            | (have h9 := h3
               rw [ez] at h9
               have h7 := r2 j.toNat (by omega)
               rw [c2, show f + ((j.toNat : Nat) : Int) = f + j by omega, show k.toNat + 1 + j.toNat = (k + 1 + j).toNat by omega] at h7
               exact h9 h7.symm)
            | (rw [ez] at h9
               rw [show (k + 1 + j).toNat = k.toNat + 1 + zvl (zrank k.toNat) by omega, c4] at h9
               exact h9 rfl)
            | (exfalso; omega)
          · have h5 : μ 212 ((k + 1) + j) = (32 : Int) := h5
            refine pm_blk hK zmm275 [] 1 87 [(2, 205), (0, f), (0, w), (0, u), (0, k), (0, j)] [(0, u)] μ [] rfl trivial ?_
            have h9 := h5
            rw [ez] at h9
            have hjl : j = (zvl (zrank k.toNat) : Int) := by
              by_cases h8 : j = (zvl (zrank k.toNat) : Int)
              · exact h8
              · exfalso
                have h7 := c5 j.toNat (by omega)
                rw [show k.toNat + 1 + j.toNat = (k + 1 + j).toNat by omega] at h7
                exact h7 h9
            obtain ⟨v, v1, v2, v3⟩ := zWr_y (T := μ 211) (s := f) (q := w) c1 ⟨by omega, fun i hi => by rw [hm i (by omega) (by omega), c2, show (k + 1 + (i : Int)).toNat = k.toNat + 1 + i by omega]⟩
            exact pm_iret rfl rfl ⟨rfl, _, rfl, Or.inl ⟨v, v1, by rw [hu]; exact v2, v3⟩⟩
      · have h3 : μ 212 ((k + 1) + j) = μ 211 (f + j) := h3
        refine pm_blk hK zmm275 [] 5 20 [(2, 205), (0, f), (0, w), (0, u), (0, k), (0, j + 1)] [] μ [pm_in (j + 1)] rfl ⟨pm_in_mk (by omega) (by omega), trivial⟩ ?_
        have h9 := h3
        rw [ez] at h9
        have hjl : j ≠ (zvl (zrank k.toNat) : Int) := fun he => by
          have h8 := hq (f + j) (by omega) (by omega)
          rw [show (k + 1 + j).toNat = k.toNat + 1 + zvl (zrank k.toNat) by omega, c4] at h9
          exact h8 h9.symm
        refine ih _ (by omega) rfl rfl hT hf hq ⟨by omega, by omega, by omega⟩ (fun i i0 i1 => ?_)
        by_cases hi : i = j
        · rw [hi]; exact h9.symm
        · exact hm i i0 (by omega)
set_option maxRecDepth 100000 in
theorem zt_wa1 (hK : zKK ST)  {μ0 : pm_Mem} {f w : Int} (hbd : 0 ≤ bud.1 ∧ 0 ≤ bud.2.1) : ∀ (n : Nat) {u k : Int} {μ : pm_Mem}, (145 - k).toNat = n → ∀ (hμ : μ = μ0) (hT : zTJ φ μ) (hf : 0 ≤ f ∧ f ≤ w ∧ w ≤ 400) (hq : ∀ i : Int, f ≤ i → i < w → μ 211 i ≠ 32) (hk : 0 ≤ k ∧ k ≤ 145) (hw : zwd k.toNat = 32) (hr : u + 1 = (zrank k.toNat : Int)) (hno : ∀ v : Nat, v < zrank k.toNat → ¬ zWr v (μ0 211) f w), zW D Wm ST b0 l Sg zM275 bud (pm_X zM275 (fun st' μ' => μ0 = μ' ∧ ∃ x, st' = [(0, x)] ∧ ((∃ v : Nat, v < 28 ∧ x = zwM (v : Int) ∧ zWm v (μ0 211) f w) ∨ (x = -1 ∧ ∀ v : Nat, v < 28 → ¬ zWm v (μ0 211) f w)))) 5 [(2, 205), (0, f), (0, w), (0, u), (0, k), (9, 0)] [] μ := by
  intro n
  induction n using Nat.strongRecOn with
  | ind n ih =>
    intro u k μ hn hμ hT hf hq hk hw hr hno
    subst hμ
    have hrk := zrank_mono (a := k.toNat) (b := 145) (by omega)
    rw [zrank_145] at hrk
    refine pm_blk hK zmm275 [] 2 10 [(2, 205), (0, f), (0, w), (0, u), (0, k), (9, 0)] [(0, 145), (0, k)] μ [] rfl trivial ?_
    refine pm_icmp hK zmm275 .ge 108 118 rfl rfl (fun h0 => ?_) (fun h0 => ?_)
    · have h0 : (145 : Int) ≤ k := h0
      refine pm_blk hK zmm275 [] 1 119 [(2, 205), (0, f), (0, w), (0, u), (0, k), (9, 0)] [(0, (-1))] μ [] rfl trivial ?_
      have e28 : zrank k.toNat = 28 := by rw [show k.toNat = 145 by omega]; exact zrank_145
      exact pm_iret rfl rfl ⟨rfl, _, rfl, Or.inr ⟨rfl, zWr_n (fun v hv => hno v (by omega))⟩⟩
    · have h0 : k < (145 : Int) := h0
      have hr27 := zrank_le (k := k.toNat) (by omega) hw
      refine pm_blk hK zmm275 [] 6 20 [(2, 205), (0, f), (0, w), (0, u + 1), (0, k), (0, 0)] [] μ [pm_in (u + 1)] rfl ⟨pm_in_mk (by omega) (by omega), trivial⟩ ?_
      refine zt_wa2 hK (μ0 := μ) (u := u + 1) hr ⟨by omega, by omega⟩ hw (fun μ2 e2 hn2 => ?_) hbd _ (j := 0) rfl rfl hT hf hq ⟨by omega, by omega, by omega⟩ (fun i i0 i1 => absurd i1 (by omega))
      subst e2
      refine pm_blk hK zmm275 [] 4 94 [(2, 205), (0, f), (0, w), (0, u + 1), (0, k + 1), (9, 0)] [] μ2 [pm_in (k + 1)] rfl ⟨pm_in_mk (by omega) (by omega), trivial⟩ ?_
      have hrk1 : zrank (k + 1).toNat = zrank k.toNat + 1 := by rw [show (k + 1).toNat = k.toNat + 1 by omega]; exact zrank_b hw
      refine zl_wa3 hK (μ0 := μ2) (u := u + 1) (k0 := k) (by omega) ⟨by omega, by omega⟩ (fun k3 μ3 e3 q1 q2 q3 q4 => ?_) hbd _ rfl rfl hT hf hq ⟨by omega, by omega⟩ (by omega)
      subst e3
      refine ih _ (by omega) rfl rfl hT hf hq ⟨by omega, by omega⟩ q3 q4 (fun v hv => ?_)
      by_cases hvk : v = zrank k.toNat
      · rw [hvk]; exact hn2
      · exact hno v (by omega)
set_option maxRecDepth 100000 in
theorem zt_wordAt (hK : zKK ST) {f w : Int} (hT : zTJ φ μ) (hf : 0 ≤ f ∧ f ≤ w ∧ w ≤ 400) (hq : ∀ i : Int, f ≤ i → i < w → μ 211 i ≠ 32) (hbd : 0 ≤ bud.1 ∧ 0 ≤ bud.2.1) : zC D Wm ST b0 l Sg zM275 bud [(2, 205), (0, f), (0, w)] μ (fun st' μ' => μ = μ' ∧ ∃ x, st' = [(0, x)] ∧ ((∃ v : Nat, v < 28 ∧ x = zwM (v : Int) ∧ zWm v (μ 211) f w) ∨ (x = -1 ∧ ∀ v : Nat, v < 28 → ¬ zWm v (μ 211) f w))) := by
  refine pm_blk hK zmm275 [] 4 5 [(2, 205), (0, f), (0, w), (0, (-1)), (0, 0), (9, 0)] [] μ [] rfl trivial ?_
  exact zt_wa1 hK (μ0 := μ) hbd _ (k := 0) (u := -1) rfl rfl hT hf hq ⟨by omega, by omega⟩ zwd_0 rfl (fun v hv => absurd hv (by rw [show (0 : Int).toNat = 0 from rfl, show zrank 0 = 0 from rfl]; omega))
end ZHW
