/-! F: the reference runs the steps of THE LAW (behind f3) -/
section FTW
variable {o x y : Int}
theorem fv_R2 (h : o = 2) : fv_twoR o x y = pm_w32 (x + y) := if_pos h
theorem fv_R3 (h : o = 3) : fv_twoR o x y = pm_w32 (x - y) := by unfold fv_twoR; rw [if_neg (by omega), if_pos h]
theorem fv_R4 (h : o = 4) : fv_twoR o x y = pm_w32 (x * y) := by unfold fv_twoR; rw [if_neg (by omega), if_neg (by omega), if_pos h]
theorem fv_R5 (h : o = 5) : fv_twoR o x y = Int.tdiv x y := by unfold fv_twoR; rw [if_neg (by omega), if_neg (by omega), if_neg (by omega), if_pos h]
theorem fv_R6 (h : o = 6) : fv_twoR o x y = if x < y then 1 else 0 := by unfold fv_twoR; rw [if_neg (by omega), if_neg (by omega), if_neg (by omega), if_neg (by omega), if_pos h]
theorem fv_R7 (h : o = 7) : fv_twoR o x y = if x = y then 1 else 0 := by unfold fv_twoR; rw [if_neg (by omega), if_neg (by omega), if_neg (by omega), if_neg (by omega), if_neg (by omega), if_pos h]
theorem fv_R8 (h : o = 8) : fv_twoR o x y = if y < x then 1 else 0 := by unfold fv_twoR; rw [if_neg (by omega), if_neg (by omega), if_neg (by omega), if_neg (by omega), if_neg (by omega), if_neg (by omega), if_pos h]
theorem fv_R10 (h : o = 10) : fv_twoR o x y = pm_w32 (x * y) := by unfold fv_twoR; rw [if_neg (by omega), if_neg (by omega), if_neg (by omega), if_neg (by omega), if_neg (by omega), if_neg (by omega), if_neg (by omega), if_pos h]
theorem fv_R11 (h2 : o ≠ 2) (h3 : o ≠ 3) (h4 : o ≠ 4) (h5 : o ≠ 5) (h6 : o ≠ 6) (h7 : o ≠ 7) (h8 : o ≠ 8) (h10 : o ≠ 10) : fv_twoR o x y = if 0 < pm_w32 (x + y) then 1 else 0 := by unfold fv_twoR; rw [if_neg h2, if_neg h3, if_neg h4, if_neg h5, if_neg h6, if_neg h7, if_neg h8, if_neg h10]
end FTW
/-- between two steps: what is still to be done comes to v -/
def fr_ok (μ0 μ : pm_Mem) (top k b v : Int) : Prop := ∃ M : List zIw, zSr (μ0 218) (μ0 219) k M ∧ k + (M.length : Int) = b ∧ fr_run (μ0 224) M (zPl_TT (μ 225) top.toNat) = [v]
section FOK
variable {μ0 μ μ' : pm_Mem} {top k b v z : Int}
theorem fr_ok_c (h : fr_ok μ0 μ top k b v) (hk : k < b) : ∃ (x : zIw) (M : List zIw), zSr (μ0 218) (μ0 219) (k + 1) M ∧ (μ0 218 k = x.1 ∧ μ0 219 k = x.2) ∧ k + 1 + (M.length : Int) = b ∧ fr_run (μ0 224) M (fr_st (μ0 224) x (zPl_TT (μ 225) top.toNat)) = [v] := by
  obtain ⟨M, h1, h2, h3⟩ := h
  cases M with
  | nil =>
    rw [List.length_nil] at h2
    omega
  | cons x M =>
    rw [List.length_cons] at h2
    have h0 := h1 0 x rfl
    rw [show k + ((0 : Nat) : Int) = k by omega] at h0
    refine ⟨x, M, ?_, h0, by omega, h3⟩
    have := zSr_r (L := [x]) (M := M) h1
    rw [show k + (([x] : List zIw).length : Int) = k + 1 by simp] at this
    exact this
theorem fr_pl (e : μ' = pm_up μ 225 top z) (ht : 0 ≤ top) : zPl_TT (μ' 225) (top + 1).toNat = z :: zPl_TT (μ 225) top.toNat := by
  rw [show (top + 1).toNat = top.toNat + 1 by omega, zPl_s, show ((top.toNat : Nat) : Int) = top by omega, e, pm_up_eq]
  congr 1
  exact zPl_cg (fun i i0 i1 => pm_up_ne (by omega))
theorem fr_ok_push (h : fr_ok μ0 μ top k b v) (hk : k < b) (ht : 0 ≤ top) (h0 : μ0 218 k = 0) (hz : z = μ0 219 k) (e : μ' = pm_up μ 225 top z) : fr_ok μ0 μ' (top + 1) (k + 1) b v := by
  obtain ⟨x, M, h1, ⟨h2, h3⟩, h4, h5⟩ := fr_ok_c h hk
  refine ⟨M, h1, h4, ?_⟩
  rw [fr_pl e ht, hz, h3]
  rw [show fr_st (μ0 224) x (zPl_TT (μ 225) top.toNat) = x.2 :: zPl_TT (μ 225) top.toNat from if_pos (by omega)] at h5
  exact h5
theorem fr_ok_ask (h : fr_ok μ0 μ top k b v) (hk : k < b) (ht : 0 ≤ top) (h0 : μ0 218 k = 1) (hz : z = μ0 224 (μ0 219 k)) (e : μ' = pm_up μ 225 top z) : fr_ok μ0 μ' (top + 1) (k + 1) b v := by
  obtain ⟨x, M, h1, ⟨h2, h3⟩, h4, h5⟩ := fr_ok_c h hk
  refine ⟨M, h1, h4, ?_⟩
  rw [fr_pl e ht, hz, h3]
  rw [show fr_st (μ0 224) x (zPl_TT (μ 225) top.toNat) = μ0 224 x.2 :: zPl_TT (μ 225) top.toNat from (if_neg (by omega)).trans (if_pos (by omega))] at h5
  exact h5
theorem fr_st_9 {W : Int → Int} {x : zIw} {a : Int} {r : List Int} (h : x.1 = 9) : fr_st W x (a :: r) = pm_w32 (1 - a) :: r := by
  unfold fr_st
  rw [if_neg (by omega), if_neg (by omega)]
  exact if_pos h
theorem fr_st_2 {W : Int → Int} {x : zIw} {a c : Int} {r : List Int} (h0 : x.1 ≠ 0) (h1 : x.1 ≠ 1) (h9 : x.1 ≠ 9) : fr_st W x (a :: c :: r) = fv_twoR x.1 c a :: r := by
  unfold fr_st
  rw [if_neg h0, if_neg h1]
  exact if_neg h9
theorem fr_ok_not (h : fr_ok μ0 μ top k b v) (hk : k < b) (ht : 1 ≤ top) (h0 : μ0 218 k = 9) (hz : z = pm_w32 (1 - μ 225 (top - 1))) (e : μ' = pm_up μ 225 (top - 1) z) : fr_ok μ0 μ' top (k + 1) b v := by
  obtain ⟨x, M, h1, ⟨h2, h3⟩, h4, h5⟩ := fr_ok_c h hk
  refine ⟨M, h1, h4, ?_⟩
  have hp := fr_pl e (by omega)
  rw [show top - 1 + 1 = top by omega] at hp
  have hq : zPl_TT (μ 225) top.toNat = μ 225 (top - 1) :: zPl_TT (μ 225) (top - 1).toNat := by
    rw [show top.toNat = (top - 1).toNat + 1 by omega, zPl_s, show (((top - 1).toNat : Nat) : Int) = top - 1 by omega]
  rw [hq, fr_st_9 (by omega)] at h5
  rw [hp, hz]
  exact h5
theorem fr_ok_two (h : fr_ok μ0 μ top k b v) (hk : k < b) (ht : 2 ≤ top) (n0 : μ0 218 k ≠ 0) (n1 : μ0 218 k ≠ 1) (n9 : μ0 218 k ≠ 9) (hz : z = fv_twoR (μ0 218 k) (μ 225 (top - 1 - 1)) (μ 225 (top - 1))) (e : μ' = pm_up μ 225 (top - 1 - 1) z) : fr_ok μ0 μ' (top - 1) (k + 1) b v := by
  obtain ⟨x, M, h1, ⟨h2, h3⟩, h4, h5⟩ := fr_ok_c h hk
  refine ⟨M, h1, h4, ?_⟩
  have hp := fr_pl e (by omega)
  rw [show top - 1 - 1 + 1 = top - 1 by omega] at hp
  have hq : zPl_TT (μ 225) top.toNat = μ 225 (top - 1) :: μ 225 (top - 1 - 1) :: zPl_TT (μ 225) (top - 1 - 1).toNat := by
    rw [show top.toNat = (top - 1 - 1).toNat + 1 + 1 by omega, zPl_s, zPl_s, show (((top - 1 - 1).toNat + 1 : Nat) : Int) = top - 1 by omega, show (((top - 1 - 1).toNat : Nat) : Int) = top - 1 - 1 by omega]
  rw [hq, fr_st_2 (by omega) (by omega) (by omega)] at h5
  rw [hp, hz, h2]
  exact h5
theorem fr_ok_end (h : fr_ok μ0 μ top k b v) (hk : k = b) : μ 225 0 = v := by
  obtain ⟨M, h1, h2, h3⟩ := h
  cases M with
  | cons x M =>
    rw [List.length_cons] at h2
    omega
  | nil =>
    have h3 : zPl_TT (μ 225) top.toNat = [v] := h3
    generalize top.toNat = n at h3
    match n, h3 with
    | 0, h3 => cases h3
    | 1, h3 =>
      have h3 : [μ 225 ((0 : Nat) : Int)] = [v] := h3
      exact (List.cons.inj h3).1
    | n + 2, h3 =>
      have h3 : μ 225 ((n + 1 : Nat) : Int) :: μ 225 ((n : Nat) : Int) :: zPl_TT (μ 225) n = [v] := h3
      have := congrArg List.length h3
      simp at this
end FOK
