/-! AFTER YOU, both sides; walks printed by program (wip/p30/pmgen.py) and filled by hand -/
variable {φ : Option pm_Mem}
section ZHW
variable {D : va_G} {Wm : Nat} {ST : List (String × String × String × Nat)} {b0 : sx_B} {l : Launch} {Sg : Nat → Option Nat} {bud : sx_Bu} {μ : pm_Mem} {B0 : Nat → Prop} {J : (Nat → Option Nat) → Heap → Prop}
set_option maxRecDepth 100000 in
theorem zh_aba (hK : zKK ST) {a : Int} (ha : -1000000 ≤ a ∧ a ≤ 1000000) (hbd : 0 ≤ bud.1 ∧ 0 ≤ bud.2.1) : zC D Wm ST b0 l Sg zM268 bud [(0, a)] μ (fun st' μ' => μ = μ' ∧ st' = [(0, zaa a)]) := by
  refine pm_blk hK zmm268 [] 1 1 [(0, a)] [(0, a)] μ [] rfl trivial ?_
  refine pm_if hK zmm268 .ge 8 9 rfl rfl (fun h0 => ?_) (fun h0 => ?_)
  · have h0 : (0 : Int) ≤ a := h0
    refine pm_blk hK zmm268 [] 1 10 [(0, a)] [(0, a)] μ [] rfl trivial ?_
    first
    | (have e : zaa a = a := zaa_p (by omega); exact pm_iret rfl rfl ⟨rfl, by rw [e]⟩)
    | (have e : zaa a = a := zaa_n (by omega); exact pm_iret rfl rfl ⟨rfl, by rw [e]⟩)
  · have h0 : a < (0 : Int) := h0
    refine pm_blk hK zmm268 [] 3 10 [(0, a)] [(0, -a)] μ [pm_in (-a)] rfl ⟨pm_in_mk (by omega) (by omega), trivial⟩ ?_
    first
    | (have e : zaa a = (-a) := zaa_p (by omega); exact pm_iret rfl rfl ⟨rfl, by rw [e]⟩)
    | (have e : zaa a = (-a) := zaa_n (by omega); exact pm_iret rfl rfl ⟨rfl, by rw [e]⟩)
set_option maxRecDepth 100000 in
theorem zl_gcd (hK : zKK ST)  {T : Int} (hbd : 0 ≤ bud.1 ∧ 0 ≤ bud.2.1) : ∀ (n : Nat) {a b i : Int}, (100 - i).toNat = n → ∀ (ha : 0 ≤ a ∧ a ≤ 19602) (hb : 0 ≤ b ∧ b ≤ 19602) (hi : 0 ≤ i ∧ i ≤ 100) (hab : 1 ≤ a + b) (ha1 : 1 ≤ i → 1 ≤ a) (hz : zgc (100 - i).toNat a b = T), zW D Wm ST b0 l Sg zM269 bud (pm_X zM269 (fun st' μ' => μ = μ' ∧ st' = [(0, T)] ∧ 1 ≤ T)) 2 [(0, a), (0, b), (0, i), (9, 0)] [] μ := by
  intro n
  induction n using Nat.strongRecOn with
  | ind n ih =>
    intro a b i hn ha hb hi hab ha1 hz
    refine pm_blk hK zmm269 [] 2 5 [(0, a), (0, b), (0, i), (9, 0)] [(0, 100), (0, i)] μ [] rfl trivial ?_
    refine pm_icmp hK zmm269 .ge 21 26 rfl rfl (fun h0 => ?_) (fun h0 => ?_)
    · have h0 : (100 : Int) ≤ i := h0
      refine pm_blk hK zmm269 [] 1 27 [(0, a), (0, b), (0, i), (9, 0)] [(0, a)] μ [] rfl trivial ?_
      first
      | (have hb0 : b = 0 := h0; have e : T = a := (by rw [← hz, hb0, zgc_zz]); exact pm_iret rfl rfl ⟨rfl, by rw [e], by omega⟩)
      | (have e : T = a := (by rw [← hz, show (100 - i).toNat = 0 by omega]; rfl); exact pm_iret rfl rfl ⟨rfl, by rw [e], by have := ha1 (by omega); omega⟩)
    · have h0 : i < (100 : Int) := h0
      refine pm_blk hK zmm269 [] 1 9 [(0, a), (0, b), (0, i), (9, 0)] [(0, b)] μ [] rfl trivial ?_
      refine pm_if hK zmm269 .eq 17 26 rfl rfl (fun h1 => ?_) (fun h1 => ?_)
      · have h1 : b = (0 : Int) := h1
        refine pm_blk hK zmm269 [] 1 27 [(0, a), (0, b), (0, i), (9, 0)] [(0, a)] μ [] rfl trivial ?_
        first
        | (have hb0 : b = 0 := h1; have e : T = a := (by rw [← hz, hb0, zgc_zz]); exact pm_iret rfl rfl ⟨rfl, by rw [e], by omega⟩)
        | (have e : T = a := (by rw [← hz, show (100 - i).toNat = 0 by omega]; rfl); exact pm_iret rfl rfl ⟨rfl, by rw [e], by have := ha1 (by omega); omega⟩)
      · have h1 : b ≠ (0 : Int) := h1
        have hm : a.tmod b = a % b := Int.tmod_eq_emod_of_nonneg (by omega)
        have hm1 := Int.emod_nonneg a (b := b) (by omega)
        have hm2 := Int.emod_lt_of_pos a (b := b) (by omega)
        refine pm_blk hK zmm269 [] 10 2 [(0, b), (0, Int.tmod a b), (0, i + 1), (0, Int.tmod a b)] [] μ [b ≠ 0, pm_in (i + 1)] rfl ⟨by omega, pm_in_mk (by omega) (by omega), trivial⟩ ?_
        refine pm_hide [3] ?_
        have hz2 : zgc (100 - (i + 1)).toNat b (a % b) = T := by
          rw [show (100 - i).toNat = (100 - (i + 1)).toNat + 1 by omega, zgc_s h1] at hz
          exact hz
        rw [hm]
        exact ih _ (by omega) rfl ⟨by omega, by omega⟩ ⟨by omega, by omega⟩ ⟨by omega, by omega⟩ (by omega) (fun _ => by omega) hz2
set_option maxRecDepth 100000 in
theorem zh_gcd (hK : zKK ST) {a b : Int} (ha : 0 ≤ a ∧ a ≤ 19602) (hb : 0 ≤ b ∧ b ≤ 396) (hab : 1 ≤ a + b) (hbd : 0 ≤ bud.1 ∧ 0 ≤ bud.2.1) : zC D Wm ST b0 l Sg zM269 bud [(0, a), (0, b)] μ (fun st' μ' => μ = μ' ∧ st' = [(0, zgR a b)] ∧ 1 ≤ zgR a b) := by
  refine pm_blk hK zmm269 [] 2 2 [(0, a), (0, b), (0, 0), (9, 0)] [] μ [] rfl trivial ?_
  have e := zgR_100 ha.1 hb.1 hb.2
  exact zl_gcd hK hbd _ rfl ha ⟨by omega, by omega⟩ ⟨by omega, by omega⟩ hab (fun h => absurd h (by omega)) (by rw [show ((100 : Int) - 0).toNat = 100 by decide]; exact e)
set_option maxRecDepth 100000 in
theorem zh_lowest (hK : zKK ST) {u v k : Int} (hu : -19602 ≤ u ∧ u ≤ 19602) (hv : -396 ≤ v ∧ v ≤ 396) (hv0 : v ≠ 0) (hk : 0 ≤ k ∧ k ≤ 1) (hbd : 1 ≤ bud.1 ∧ 30 ≤ bud.2.1) : zC D Wm ST b0 l Sg zM267 bud [(0, u), (0, v), (0, k)] μ (fun st' μ' => μ = μ' ∧ st' = [(0, zaF u v (if k = 1 then v else u))]) := by
  have u0 := zaa_0 (d := u)
  have u1 := zaa_le (d := u) (N := 19602) hu
  have v0 := zaa_0 (d := v)
  have v1 := zaa_le (d := v) (N := 396) hv
  have v2 := zaa_1 hv0
  refine pm_blk hK zmm267 [] 1 1 [(0, u), (0, v), (0, k), (9, 0), (9, 0)] [(0, u)] μ [] rfl trivial ?_
  refine pm_call hK zmm267 (50, 1, 268, 1) zM268 (0, 0) [(0, u)] [] rfl rfl rfl rfl ⟨by omega, by rw [zn268]; omega⟩ (zh_aba hK (a := u) ⟨by omega, by omega⟩ ⟨Nat.le_refl _, Nat.le_refl _⟩) (fun st1 μc1 hp1 => ?_)
  obtain ⟨rfl, rfl⟩ := hp1
  refine pm_blk hK zmm267 [] 1 5 [(0, u), (0, v), (0, k), (9, 0), (9, 0)] [(0, v), (0, zaa u)] μ [] rfl trivial ?_
  refine pm_call hK zmm267 (50, 1, 268, 1) zM268 (0, 0) [(0, v)] [(0, zaa u)] rfl rfl rfl rfl ⟨by omega, by rw [zn268]; omega⟩ (zh_aba hK (a := v) ⟨by omega, by omega⟩ ⟨Nat.le_refl _, Nat.le_refl _⟩) (fun st2 μc2 hp2 => ?_)
  obtain ⟨rfl, rfl⟩ := hp2
  refine pm_call hK zmm267 (54, 1, 269, 2) zM269 (0, 0) [(0, zaa u), (0, zaa v)] [] rfl rfl rfl rfl ⟨by omega, by rw [zn269]; omega⟩ (zh_gcd hK (a := (zaa u)) (b := (zaa v)) ⟨by omega, by omega⟩ ⟨by omega, by omega⟩ (by omega) ⟨Nat.le_refl _, Nat.le_refl _⟩) (fun st3 μc3 hp3 => ?_)
  obtain ⟨rfl, rfl, hg3⟩ := hp3
  refine pm_blk hK zmm267 [] 2 13 [(0, u), (0, v), (0, k), (0, zgR (zaa u) (zaa v)), (9, 0)] [(0, zgR (zaa u) (zaa v))] μ [] rfl trivial ?_
  refine pm_if hK zmm267 .eq 7 20 rfl rfl (fun h0 => ?_) (fun h0 => ?_)
  · have h0 : zgR (zaa u) (zaa v) = (0 : Int) := h0
    refine pm_blk hK zmm267 [] 1 21 [(0, u), (0, v), (0, k), (0, zgR (zaa u) (zaa v)), (9, 0)] [(0, k)] μ [] rfl trivial ?_
    refine pm_if hK zmm267 .eq 7 28 rfl rfl (fun h1 => ?_) (fun h1 => ?_)
    · have h1 : k = (0 : Int) := h1
      refine pm_blk hK zmm267 [] 1 29 [(0, u), (0, v), (0, k), (0, zgR (zaa u) (zaa v)), (9, 0)] [(0, 0)] μ [] rfl trivial ?_
      exfalso; omega
    · have h1 : k ≠ (0 : Int) := h1
      refine pm_blk hK zmm267 [] 2 29 [(0, u), (0, v), (0, k), (0, zgR (zaa u) (zaa v)), (9, 0)] [(0, 1)] μ [] rfl trivial ?_
      exfalso; omega
  · have h0 : zgR (zaa u) (zaa v) ≠ (0 : Int) := h0
    refine pm_blk hK zmm267 [] 1 17 [(0, u), (0, v), (0, k), (0, zgR (zaa u) (zaa v)), (9, 0)] [(0, v)] μ [] rfl trivial ?_
    refine pm_if hK zmm267 .ne 13 30 rfl rfl (fun h2 => ?_) (fun h2 => ?_)
    · have h2 : v ≠ (0 : Int) := h2
      refine pm_blk hK zmm267 [] 1 31 [(0, u), (0, v), (0, k), (0, zgR (zaa u) (zaa v)), (9, 0)] [(0, k)] μ [] rfl trivial ?_
      refine pm_if hK zmm267 .eq 7 38 rfl rfl (fun h3 => ?_) (fun h3 => ?_)
      · have h3 : k = (0 : Int) := h3
        refine pm_blk hK zmm267 [] 1 39 [(0, u), (0, v), (0, k), (0, zgR (zaa u) (zaa v)), (9, 0)] [(0, u)] μ [] rfl trivial ?_
        have d1 : -2147483648 ≤ Int.tdiv u (zgR (zaa u) (zaa v)) ∧ Int.tdiv u (zgR (zaa u) (zaa v)) ≤ 2147483647 := ztdiv (by omega) ⟨by omega, by omega⟩
        have d2 : -2147483648 ≤ Int.tdiv (-u) (zgR (zaa u) (zaa v)) ∧ Int.tdiv (-u) (zgR (zaa u) (zaa v)) ≤ 2147483647 := ztdiv (by omega) ⟨by omega, by omega⟩
        rw [Int.neg_tdiv] at d2
        refine pm_blk hK zmm267 [] 4 44 [(0, u), (0, v), (0, k), (0, zgR (zaa u) (zaa v)), (0, Int.tdiv u (zgR (zaa u) (zaa v)))] [(0, v)] μ [(zgR (zaa u) (zaa v)) ≠ 0, pm_in (Int.tdiv u (zgR (zaa u) (zaa v)))] rfl ⟨by omega, pm_in_mk (by omega) (by omega), trivial⟩ ?_
        refine pm_if hK zmm267 .ge 9 53 rfl rfl (fun h4 => ?_) (fun h4 => ?_)
        · have h4 : (0 : Int) ≤ v := h4
          refine pm_blk hK zmm267 [] 1 55 [(0, u), (0, v), (0, k), (0, zgR (zaa u) (zaa v)), (0, Int.tdiv u (zgR (zaa u) (zaa v)))] [(0, Int.tdiv u (zgR (zaa u) (zaa v)))] μ [] rfl trivial ?_
          first
          | (have e : zaF u v (if k = 1 then v else u) = (Int.tdiv u (zgR (zaa u) (zaa v))) := (by rw [if_pos (show k = 1 by omega)]; exact zaF_p (by omega)); exact pm_iret rfl rfl ⟨rfl, by rw [e]⟩)
          | (have e : zaF u v (if k = 1 then v else u) = (Int.tdiv u (zgR (zaa u) (zaa v))) := (by rw [if_pos (show k = 1 by omega)]; exact zaF_m (by omega)); exact pm_iret rfl rfl ⟨rfl, by rw [e]⟩)
          | (have e : zaF u v (if k = 1 then v else u) = (Int.tdiv u (zgR (zaa u) (zaa v))) := (by rw [if_neg (show ¬ k = 1 by omega)]; exact zaF_p (by omega)); exact pm_iret rfl rfl ⟨rfl, by rw [e]⟩)
          | (have e : zaF u v (if k = 1 then v else u) = (Int.tdiv u (zgR (zaa u) (zaa v))) := (by rw [if_neg (show ¬ k = 1 by omega)]; exact zaF_m (by omega)); exact pm_iret rfl rfl ⟨rfl, by rw [e]⟩)
        · have h4 : v < (0 : Int) := h4
          refine pm_blk hK zmm267 [] 3 55 [(0, u), (0, v), (0, k), (0, zgR (zaa u) (zaa v)), (0, Int.tdiv u (zgR (zaa u) (zaa v)))] [(0, -(Int.tdiv u (zgR (zaa u) (zaa v))))] μ [pm_in (-(Int.tdiv u (zgR (zaa u) (zaa v))))] rfl ⟨pm_in_mk (by omega) (by omega), trivial⟩ ?_
          first
          | (have e : zaF u v (if k = 1 then v else u) = (-(Int.tdiv u (zgR (zaa u) (zaa v)))) := (by rw [if_pos (show k = 1 by omega)]; exact zaF_p (by omega)); exact pm_iret rfl rfl ⟨rfl, by rw [e]⟩)
          | (have e : zaF u v (if k = 1 then v else u) = (-(Int.tdiv u (zgR (zaa u) (zaa v)))) := (by rw [if_pos (show k = 1 by omega)]; exact zaF_m (by omega)); exact pm_iret rfl rfl ⟨rfl, by rw [e]⟩)
          | (have e : zaF u v (if k = 1 then v else u) = (-(Int.tdiv u (zgR (zaa u) (zaa v)))) := (by rw [if_neg (show ¬ k = 1 by omega)]; exact zaF_p (by omega)); exact pm_iret rfl rfl ⟨rfl, by rw [e]⟩)
          | (have e : zaF u v (if k = 1 then v else u) = (-(Int.tdiv u (zgR (zaa u) (zaa v)))) := (by rw [if_neg (show ¬ k = 1 by omega)]; exact zaF_m (by omega)); exact pm_iret rfl rfl ⟨rfl, by rw [e]⟩)
      · have h3 : k ≠ (0 : Int) := h3
        refine pm_blk hK zmm267 [] 2 39 [(0, u), (0, v), (0, k), (0, zgR (zaa u) (zaa v)), (9, 0)] [(0, v)] μ [] rfl trivial ?_
        have d1 : -2147483648 ≤ Int.tdiv v (zgR (zaa u) (zaa v)) ∧ Int.tdiv v (zgR (zaa u) (zaa v)) ≤ 2147483647 := ztdiv (by omega) ⟨by omega, by omega⟩
        have d2 : -2147483648 ≤ Int.tdiv (-v) (zgR (zaa u) (zaa v)) ∧ Int.tdiv (-v) (zgR (zaa u) (zaa v)) ≤ 2147483647 := ztdiv (by omega) ⟨by omega, by omega⟩
        rw [Int.neg_tdiv] at d2
        refine pm_blk hK zmm267 [] 4 44 [(0, u), (0, v), (0, k), (0, zgR (zaa u) (zaa v)), (0, Int.tdiv v (zgR (zaa u) (zaa v)))] [(0, v)] μ [(zgR (zaa u) (zaa v)) ≠ 0, pm_in (Int.tdiv v (zgR (zaa u) (zaa v)))] rfl ⟨by omega, pm_in_mk (by omega) (by omega), trivial⟩ ?_
        refine pm_if hK zmm267 .ge 9 53 rfl rfl (fun h5 => ?_) (fun h5 => ?_)
        · have h5 : (0 : Int) ≤ v := h5
          refine pm_blk hK zmm267 [] 1 55 [(0, u), (0, v), (0, k), (0, zgR (zaa u) (zaa v)), (0, Int.tdiv v (zgR (zaa u) (zaa v)))] [(0, Int.tdiv v (zgR (zaa u) (zaa v)))] μ [] rfl trivial ?_
          first
          | (have e : zaF u v (if k = 1 then v else u) = (Int.tdiv v (zgR (zaa u) (zaa v))) := (by rw [if_pos (show k = 1 by omega)]; exact zaF_p (by omega)); exact pm_iret rfl rfl ⟨rfl, by rw [e]⟩)
          | (have e : zaF u v (if k = 1 then v else u) = (Int.tdiv v (zgR (zaa u) (zaa v))) := (by rw [if_pos (show k = 1 by omega)]; exact zaF_m (by omega)); exact pm_iret rfl rfl ⟨rfl, by rw [e]⟩)
          | (have e : zaF u v (if k = 1 then v else u) = (Int.tdiv v (zgR (zaa u) (zaa v))) := (by rw [if_neg (show ¬ k = 1 by omega)]; exact zaF_p (by omega)); exact pm_iret rfl rfl ⟨rfl, by rw [e]⟩)
          | (have e : zaF u v (if k = 1 then v else u) = (Int.tdiv v (zgR (zaa u) (zaa v))) := (by rw [if_neg (show ¬ k = 1 by omega)]; exact zaF_m (by omega)); exact pm_iret rfl rfl ⟨rfl, by rw [e]⟩)
        · have h5 : v < (0 : Int) := h5
          refine pm_blk hK zmm267 [] 3 55 [(0, u), (0, v), (0, k), (0, zgR (zaa u) (zaa v)), (0, Int.tdiv v (zgR (zaa u) (zaa v)))] [(0, -(Int.tdiv v (zgR (zaa u) (zaa v))))] μ [pm_in (-(Int.tdiv v (zgR (zaa u) (zaa v))))] rfl ⟨pm_in_mk (by omega) (by omega), trivial⟩ ?_
          first
          | (have e : zaF u v (if k = 1 then v else u) = (-(Int.tdiv v (zgR (zaa u) (zaa v)))) := (by rw [if_pos (show k = 1 by omega)]; exact zaF_p (by omega)); exact pm_iret rfl rfl ⟨rfl, by rw [e]⟩)
          | (have e : zaF u v (if k = 1 then v else u) = (-(Int.tdiv v (zgR (zaa u) (zaa v)))) := (by rw [if_pos (show k = 1 by omega)]; exact zaF_m (by omega)); exact pm_iret rfl rfl ⟨rfl, by rw [e]⟩)
          | (have e : zaF u v (if k = 1 then v else u) = (-(Int.tdiv v (zgR (zaa u) (zaa v)))) := (by rw [if_neg (show ¬ k = 1 by omega)]; exact zaF_p (by omega)); exact pm_iret rfl rfl ⟨rfl, by rw [e]⟩)
          | (have e : zaF u v (if k = 1 then v else u) = (-(Int.tdiv v (zgR (zaa u) (zaa v)))) := (by rw [if_neg (show ¬ k = 1 by omega)]; exact zaF_m (by omega)); exact pm_iret rfl rfl ⟨rfl, by rw [e]⟩)
    · have h2 : v = (0 : Int) := h2
      refine pm_blk hK zmm267 [] 1 21 [(0, u), (0, v), (0, k), (0, zgR (zaa u) (zaa v)), (9, 0)] [(0, k)] μ [] rfl trivial ?_
      refine pm_if hK zmm267 .eq 7 28 rfl rfl (fun h6 => ?_) (fun h6 => ?_)
      · have h6 : k = (0 : Int) := h6
        refine pm_blk hK zmm267 [] 1 29 [(0, u), (0, v), (0, k), (0, zgR (zaa u) (zaa v)), (9, 0)] [(0, 0)] μ [] rfl trivial ?_
        exfalso; omega
      · have h6 : k ≠ (0 : Int) := h6
        refine pm_blk hK zmm267 [] 2 29 [(0, u), (0, v), (0, k), (0, zgR (zaa u) (zaa v)), (9, 0)] [(0, 1)] μ [] rfl trivial ?_
        exfalso; omega
set_option maxRecDepth 100000 in
theorem zh_afterYou (hK : zKK ST) {w : Int} (hT : zTJ φ μ) (hw : 0 ≤ w ∧ w ≤ 3) (hbd : 2 ≤ bud.1 ∧ 60 ≤ bud.2.1) : zC D Wm ST b0 l Sg zM81 bud [(2, 32), (0, w)] μ (fun st' μ' => μ = μ' ∧ st' = [(0, zaZ (μ 32 0) (μ 32 1) (μ 32 2) (μ 32 3) w)]) := by
  have ha1 := zand1 hw
  refine pm_blk hK zmm81 [] 3 3 [(2, 32), (0, w), (9, 0), (9, 0), (9, 0), (9, 0), (9, 0), (9, 0), (9, 0)] [(0, 4), (0, 4)] μ [] rfl trivial ?_
  refine pm_icmp hK zmm81 .ge 7 10 rfl rfl (fun h0 => ?_) (fun h0 => ?_)
  · have h0 : (4 : Int) ≤ (4 : Int) := h0
    have f1 := zT_get hT zs32_0 (i := 0) (by omega) (by omega)
    have f2 := zT_get hT zs32_0 (i := 1) (by omega) (by omega)
    have f3 := zT_get hT zs32_0 (i := 2) (by omega) (by omega)
    have f4 := zT_get hT zs32_0 (i := 3) (by omega) (by omega)
    refine pm_blk hK zmm81 [] 18 30 [(2, 32), (0, w), (0, μ 32 0), (0, μ 32 1), (0, μ 32 2), (0, μ 32 3), (9, 0), (9, 0), (9, 0)] [(0, μ 32 1), (0, μ 32 0)] μ [0 ≤ 0 ∧ 0 < 4, 0 ≤ 1 ∧ 1 < 4, 0 ≤ 2 ∧ 2 < 4, 0 ≤ 3 ∧ 3 < 4] rfl ⟨⟨by omega, by omega⟩, ⟨by omega, by omega⟩, ⟨by omega, by omega⟩, ⟨by omega, by omega⟩, trivial⟩ ?_
    refine pm_call hK zmm81 (43, 1, 30, 2) zM30 (0, 0) [(0, μ 32 0), (0, μ 32 1)] [] rfl rfl rfl rfl ⟨by omega, by rw [zn30]; omega⟩ (zh_min hK ⟨Nat.le_refl _, Nat.le_refl _⟩) (fun st1 μc1 hp1 => ?_)
    obtain ⟨rfl, rfl⟩ := hp1
    refine pm_blk hK zmm81 [] 2 37 [(2, 32), (0, w), (0, μ 32 0), (0, μ 32 1), (0, μ 32 2), (0, μ 32 3), (9, 0), (9, 0), (9, 0)] [(0, μ 32 3), (0, μ 32 2), (0, min (μ 32 0) (μ 32 1))] μ [] rfl trivial ?_
    refine pm_call hK zmm81 (43, 1, 30, 2) zM30 (0, 0) [(0, μ 32 2), (0, μ 32 3)] [(0, min (μ 32 0) (μ 32 1))] rfl rfl rfl rfl ⟨by omega, by rw [zn30]; omega⟩ (zh_min hK ⟨Nat.le_refl _, Nat.le_refl _⟩) (fun st2 μc2 hp2 => ?_)
    obtain ⟨rfl, rfl⟩ := hp2
    refine pm_call hK zmm81 (37, 1, 34, 2) zM34 (0, 0) [(0, min (μ 32 0) (μ 32 1)), (0, min (μ 32 2) (μ 32 3))] [] rfl rfl rfl rfl ⟨by omega, by rw [zn34]; omega⟩ (zh_max hK ⟨Nat.le_refl _, Nat.le_refl _⟩) (fun st3 μc3 hp3 => ?_)
    obtain ⟨rfl, rfl⟩ := hp3
    refine pm_blk hK zmm81 [] 3 48 [(2, 32), (0, w), (0, μ 32 0), (0, μ 32 1), (0, μ 32 2), (0, μ 32 3), (0, max (min (μ 32 0) (μ 32 1)) (min (μ 32 2) (μ 32 3))), (9, 0), (9, 0)] [(0, μ 32 2), (0, μ 32 0)] μ [] rfl trivial ?_
    refine pm_call hK zmm81 (37, 1, 34, 2) zM34 (0, 0) [(0, μ 32 0), (0, μ 32 2)] [] rfl rfl rfl rfl ⟨by omega, by rw [zn34]; omega⟩ (zh_max hK ⟨Nat.le_refl _, Nat.le_refl _⟩) (fun st4 μc4 hp4 => ?_)
    obtain ⟨rfl, rfl⟩ := hp4
    refine pm_blk hK zmm81 [] 2 54 [(2, 32), (0, w), (0, μ 32 0), (0, μ 32 1), (0, μ 32 2), (0, μ 32 3), (0, max (min (μ 32 0) (μ 32 1)) (min (μ 32 2) (μ 32 3))), (9, 0), (9, 0)] [(0, μ 32 3), (0, μ 32 1), (0, max (μ 32 0) (μ 32 2))] μ [] rfl trivial ?_
    refine pm_call hK zmm81 (37, 1, 34, 2) zM34 (0, 0) [(0, μ 32 1), (0, μ 32 3)] [(0, max (μ 32 0) (μ 32 2))] rfl rfl rfl rfl ⟨by omega, by rw [zn34]; omega⟩ (zh_max hK ⟨Nat.le_refl _, Nat.le_refl _⟩) (fun st5 μc5 hp5 => ?_)
    obtain ⟨rfl, rfl⟩ := hp5
    refine pm_call hK zmm81 (43, 1, 30, 2) zM30 (0, 0) [(0, max (μ 32 0) (μ 32 2)), (0, max (μ 32 1) (μ 32 3))] [] rfl rfl rfl rfl ⟨by omega, by rw [zn30]; omega⟩ (zh_min hK ⟨Nat.le_refl _, Nat.le_refl _⟩) (fun st6 μc6 hp6 => ?_)
    obtain ⟨rfl, rfl⟩ := hp6
    refine pm_blk hK zmm81 [] 3 66 [(2, 32), (0, w), (0, μ 32 0), (0, μ 32 1), (0, μ 32 2), (0, μ 32 3), (0, max (min (μ 32 0) (μ 32 1)) (min (μ 32 2) (μ 32 3))), (0, min (max (μ 32 0) (μ 32 2)) (max (μ 32 1) (μ 32 3))), (9, 0)] [(0, min (max (μ 32 0) (μ 32 2)) (max (μ 32 1) (μ 32 3))), (0, max (min (μ 32 0) (μ 32 1)) (min (μ 32 2) (μ 32 3)))] μ [] rfl trivial ?_
    refine pm_icmp hK zmm81 .ne 41 107 rfl rfl (fun h1 => ?_) (fun h1 => ?_)
    · have h1 : max (min (μ 32 0) (μ 32 1)) (min (μ 32 2) (μ 32 3)) ≠ min (max (μ 32 0) (μ 32 2)) (max (μ 32 1) (μ 32 3)) := h1
      have hN : zaL (μ 32 0) (μ 32 1) (μ 32 2) (μ 32 3) ≠ zaH (μ 32 0) (μ 32 1) (μ 32 2) (μ 32 3) := h1
      have hD := zaD hN
      refine pm_blk hK zmm81 [] 2 109 [(2, 32), (0, w), (0, μ 32 0), (0, μ 32 1), (0, μ 32 2), (0, μ 32 3), (0, max (min (μ 32 0) (μ 32 1)) (min (μ 32 2) (μ 32 3))), (0, min (max (μ 32 0) (μ 32 2)) (max (μ 32 1) (μ 32 3))), (9, 0)] [(0, 2), (0, w)] μ [] rfl trivial ?_
      refine pm_icmp hK zmm81 .ge 15 124 rfl rfl (fun h2 => ?_) (fun h2 => ?_)
      · have h2 : (2 : Int) ≤ w := h2
        refine pm_blk hK zmm81 [] 16 146 [(2, 32), (0, w), (0, μ 32 0), (0, μ 32 1), (0, μ 32 2), (0, μ 32 3), (0, max (min (μ 32 0) (μ 32 1)) (min (μ 32 2) (μ 32 3))), (0, min (max (μ 32 0) (μ 32 2)) (max (μ 32 1) (μ 32 3))), (0, (μ 32 3) - (μ 32 2))] [(0, 1), (0, pm_and w 1), (0, (((μ 32 0) + (μ 32 3)) - (μ 32 1)) - (μ 32 2)), (0, (μ 32 3) - (μ 32 2))] μ [pm_in ((μ 32 3) - (μ 32 2)), pm_in ((μ 32 0) + (μ 32 3)), pm_in (((μ 32 0) + (μ 32 3)) - (μ 32 1)), pm_in ((((μ 32 0) + (μ 32 3)) - (μ 32 1)) - (μ 32 2))] rfl ⟨pm_in_mk (by omega) (by omega), pm_in_mk (by omega) (by omega), pm_in_mk (by omega) (by omega), pm_in_mk (by omega) (by omega), trivial⟩ ?_
        refine pm_icmp hK zmm81 .ne 7 153 rfl rfl (fun h3 => ?_) (fun h3 => ?_)
        · have h3 : pm_and w 1 ≠ (1 : Int) := h3
          refine pm_blk hK zmm81 [] 1 154 [(2, 32), (0, w), (0, μ 32 0), (0, μ 32 1), (0, μ 32 2), (0, μ 32 3), (0, max (min (μ 32 0) (μ 32 1)) (min (μ 32 2) (μ 32 3))), (0, min (max (μ 32 0) (μ 32 2)) (max (μ 32 1) (μ 32 3))), (0, (μ 32 3) - (μ 32 2))] [(0, 0), (0, (((μ 32 0) + (μ 32 3)) - (μ 32 1)) - (μ 32 2)), (0, (μ 32 3) - (μ 32 2))] μ [] rfl trivial ?_
          refine pm_call hK zmm81 (46, 1, 267, 3) zM267 (1, 30) [(0, (μ 32 3) - (μ 32 2)), (0, (((μ 32 0) + (μ 32 3)) - (μ 32 1)) - (μ 32 2)), (0, 0)] [] rfl rfl rfl rfl ⟨by omega, by rw [zn267]; omega⟩ (zh_lowest hK (u := ((μ 32 3) - (μ 32 2))) (v := ((((μ 32 0) + (μ 32 3)) - (μ 32 1)) - (μ 32 2))) (k := 0) ⟨by omega, by omega⟩ ⟨by omega, by omega⟩ (by omega) ⟨by omega, by omega⟩ ⟨Nat.le_refl _, Nat.le_refl _⟩) (fun st7 μc7 hp7 => ?_)
          obtain ⟨rfl, rfl⟩ := hp7
          first
          | (have zo : zaZ (μ 32 0) (μ 32 1) (μ 32 2) (μ 32 3) w = (zaF ((μ 32 3) - (μ 32 2)) ((((μ 32 0) + (μ 32 3)) - (μ 32 1)) - (μ 32 2)) (if (0 : Int) = 1 then ((((μ 32 0) + (μ 32 3)) - (μ 32 1)) - (μ 32 2)) else ((μ 32 3) - (μ 32 2)))) := (by rw [zaZ_n hw hN, if_pos (show w < 2 by omega), if_pos (show w = 1 ∨ w = 3 by omega)]; rfl); exact pm_iret rfl rfl ⟨rfl, by rw [zo]⟩)
          | (have zo : zaZ (μ 32 0) (μ 32 1) (μ 32 2) (μ 32 3) w = (zaF ((μ 32 3) - (μ 32 2)) ((((μ 32 0) + (μ 32 3)) - (μ 32 1)) - (μ 32 2)) (if (0 : Int) = 1 then ((((μ 32 0) + (μ 32 3)) - (μ 32 1)) - (μ 32 2)) else ((μ 32 3) - (μ 32 2)))) := (by rw [zaZ_n hw hN, if_pos (show w < 2 by omega), if_neg (show ¬ (w = 1 ∨ w = 3) by omega)]; rfl); exact pm_iret rfl rfl ⟨rfl, by rw [zo]⟩)
          | (have zo : zaZ (μ 32 0) (μ 32 1) (μ 32 2) (μ 32 3) w = (zaF ((μ 32 3) - (μ 32 2)) ((((μ 32 0) + (μ 32 3)) - (μ 32 1)) - (μ 32 2)) (if (0 : Int) = 1 then ((((μ 32 0) + (μ 32 3)) - (μ 32 1)) - (μ 32 2)) else ((μ 32 3) - (μ 32 2)))) := (by rw [zaZ_n hw hN, if_neg (show ¬ w < 2 by omega), if_pos (show w = 1 ∨ w = 3 by omega)]; rfl); exact pm_iret rfl rfl ⟨rfl, by rw [zo]⟩)
          | (have zo : zaZ (μ 32 0) (μ 32 1) (μ 32 2) (μ 32 3) w = (zaF ((μ 32 3) - (μ 32 2)) ((((μ 32 0) + (μ 32 3)) - (μ 32 1)) - (μ 32 2)) (if (0 : Int) = 1 then ((((μ 32 0) + (μ 32 3)) - (μ 32 1)) - (μ 32 2)) else ((μ 32 3) - (μ 32 2)))) := (by rw [zaZ_n hw hN, if_neg (show ¬ w < 2 by omega), if_neg (show ¬ (w = 1 ∨ w = 3) by omega)]; rfl); exact pm_iret rfl rfl ⟨rfl, by rw [zo]⟩)
        · have h3 : pm_and w 1 = (1 : Int) := h3
          refine pm_blk hK zmm81 [] 2 154 [(2, 32), (0, w), (0, μ 32 0), (0, μ 32 1), (0, μ 32 2), (0, μ 32 3), (0, max (min (μ 32 0) (μ 32 1)) (min (μ 32 2) (μ 32 3))), (0, min (max (μ 32 0) (μ 32 2)) (max (μ 32 1) (μ 32 3))), (0, (μ 32 3) - (μ 32 2))] [(0, 1), (0, (((μ 32 0) + (μ 32 3)) - (μ 32 1)) - (μ 32 2)), (0, (μ 32 3) - (μ 32 2))] μ [] rfl trivial ?_
          refine pm_call hK zmm81 (46, 1, 267, 3) zM267 (1, 30) [(0, (μ 32 3) - (μ 32 2)), (0, (((μ 32 0) + (μ 32 3)) - (μ 32 1)) - (μ 32 2)), (0, 1)] [] rfl rfl rfl rfl ⟨by omega, by rw [zn267]; omega⟩ (zh_lowest hK (u := ((μ 32 3) - (μ 32 2))) (v := ((((μ 32 0) + (μ 32 3)) - (μ 32 1)) - (μ 32 2))) (k := 1) ⟨by omega, by omega⟩ ⟨by omega, by omega⟩ (by omega) ⟨by omega, by omega⟩ ⟨Nat.le_refl _, Nat.le_refl _⟩) (fun st8 μc8 hp8 => ?_)
          obtain ⟨rfl, rfl⟩ := hp8
          first
          | (have zo : zaZ (μ 32 0) (μ 32 1) (μ 32 2) (μ 32 3) w = (zaF ((μ 32 3) - (μ 32 2)) ((((μ 32 0) + (μ 32 3)) - (μ 32 1)) - (μ 32 2)) (if (1 : Int) = 1 then ((((μ 32 0) + (μ 32 3)) - (μ 32 1)) - (μ 32 2)) else ((μ 32 3) - (μ 32 2)))) := (by rw [zaZ_n hw hN, if_pos (show w < 2 by omega), if_pos (show w = 1 ∨ w = 3 by omega)]; rfl); exact pm_iret rfl rfl ⟨rfl, by rw [zo]⟩)
          | (have zo : zaZ (μ 32 0) (μ 32 1) (μ 32 2) (μ 32 3) w = (zaF ((μ 32 3) - (μ 32 2)) ((((μ 32 0) + (μ 32 3)) - (μ 32 1)) - (μ 32 2)) (if (1 : Int) = 1 then ((((μ 32 0) + (μ 32 3)) - (μ 32 1)) - (μ 32 2)) else ((μ 32 3) - (μ 32 2)))) := (by rw [zaZ_n hw hN, if_pos (show w < 2 by omega), if_neg (show ¬ (w = 1 ∨ w = 3) by omega)]; rfl); exact pm_iret rfl rfl ⟨rfl, by rw [zo]⟩)
          | (have zo : zaZ (μ 32 0) (μ 32 1) (μ 32 2) (μ 32 3) w = (zaF ((μ 32 3) - (μ 32 2)) ((((μ 32 0) + (μ 32 3)) - (μ 32 1)) - (μ 32 2)) (if (1 : Int) = 1 then ((((μ 32 0) + (μ 32 3)) - (μ 32 1)) - (μ 32 2)) else ((μ 32 3) - (μ 32 2)))) := (by rw [zaZ_n hw hN, if_neg (show ¬ w < 2 by omega), if_pos (show w = 1 ∨ w = 3 by omega)]; rfl); exact pm_iret rfl rfl ⟨rfl, by rw [zo]⟩)
          | (have zo : zaZ (μ 32 0) (μ 32 1) (μ 32 2) (μ 32 3) w = (zaF ((μ 32 3) - (μ 32 2)) ((((μ 32 0) + (μ 32 3)) - (μ 32 1)) - (μ 32 2)) (if (1 : Int) = 1 then ((((μ 32 0) + (μ 32 3)) - (μ 32 1)) - (μ 32 2)) else ((μ 32 3) - (μ 32 2)))) := (by rw [zaZ_n hw hN, if_neg (show ¬ w < 2 by omega), if_neg (show ¬ (w = 1 ∨ w = 3) by omega)]; rfl); exact pm_iret rfl rfl ⟨rfl, by rw [zo]⟩)
      · have h2 : w < (2 : Int) := h2
        have z1 := zmul99 (a := (μ 32 0)) (b := (μ 32 3)) (by omega) (by omega)
        have z2 := zmul99 (a := (μ 32 1)) (b := (μ 32 2)) (by omega) (by omega)
        refine pm_blk hK zmm81 [] 21 146 [(2, 32), (0, w), (0, μ 32 0), (0, μ 32 1), (0, μ 32 2), (0, μ 32 3), (0, max (min (μ 32 0) (μ 32 1)) (min (μ 32 2) (μ 32 3))), (0, min (max (μ 32 0) (μ 32 2)) (max (μ 32 1) (μ 32 3))), (0, ((μ 32 0) * (μ 32 3)) - ((μ 32 1) * (μ 32 2)))] [(0, 1), (0, pm_and w 1), (0, (((μ 32 0) + (μ 32 3)) - (μ 32 1)) - (μ 32 2)), (0, ((μ 32 0) * (μ 32 3)) - ((μ 32 1) * (μ 32 2)))] μ [pm_in ((μ 32 0) * (μ 32 3)), pm_in ((μ 32 1) * (μ 32 2)), pm_in (((μ 32 0) * (μ 32 3)) - ((μ 32 1) * (μ 32 2))), pm_in ((μ 32 0) + (μ 32 3)), pm_in (((μ 32 0) + (μ 32 3)) - (μ 32 1)), pm_in ((((μ 32 0) + (μ 32 3)) - (μ 32 1)) - (μ 32 2))] rfl ⟨pm_in_mk (by omega) (by omega), pm_in_mk (by omega) (by omega), pm_in_mk (by omega) (by omega), pm_in_mk (by omega) (by omega), pm_in_mk (by omega) (by omega), pm_in_mk (by omega) (by omega), trivial⟩ ?_
        refine pm_icmp hK zmm81 .ne 7 153 rfl rfl (fun h4 => ?_) (fun h4 => ?_)
        · have h4 : pm_and w 1 ≠ (1 : Int) := h4
          refine pm_blk hK zmm81 [] 1 154 [(2, 32), (0, w), (0, μ 32 0), (0, μ 32 1), (0, μ 32 2), (0, μ 32 3), (0, max (min (μ 32 0) (μ 32 1)) (min (μ 32 2) (μ 32 3))), (0, min (max (μ 32 0) (μ 32 2)) (max (μ 32 1) (μ 32 3))), (0, ((μ 32 0) * (μ 32 3)) - ((μ 32 1) * (μ 32 2)))] [(0, 0), (0, (((μ 32 0) + (μ 32 3)) - (μ 32 1)) - (μ 32 2)), (0, ((μ 32 0) * (μ 32 3)) - ((μ 32 1) * (μ 32 2)))] μ [] rfl trivial ?_
          refine pm_call hK zmm81 (46, 1, 267, 3) zM267 (1, 30) [(0, ((μ 32 0) * (μ 32 3)) - ((μ 32 1) * (μ 32 2))), (0, (((μ 32 0) + (μ 32 3)) - (μ 32 1)) - (μ 32 2)), (0, 0)] [] rfl rfl rfl rfl ⟨by omega, by rw [zn267]; omega⟩ (zh_lowest hK (u := (((μ 32 0) * (μ 32 3)) - ((μ 32 1) * (μ 32 2)))) (v := ((((μ 32 0) + (μ 32 3)) - (μ 32 1)) - (μ 32 2))) (k := 0) ⟨by omega, by omega⟩ ⟨by omega, by omega⟩ (by omega) ⟨by omega, by omega⟩ ⟨Nat.le_refl _, Nat.le_refl _⟩) (fun st9 μc9 hp9 => ?_)
          obtain ⟨rfl, rfl⟩ := hp9
          first
          | (have zo : zaZ (μ 32 0) (μ 32 1) (μ 32 2) (μ 32 3) w = (zaF (((μ 32 0) * (μ 32 3)) - ((μ 32 1) * (μ 32 2))) ((((μ 32 0) + (μ 32 3)) - (μ 32 1)) - (μ 32 2)) (if (0 : Int) = 1 then ((((μ 32 0) + (μ 32 3)) - (μ 32 1)) - (μ 32 2)) else (((μ 32 0) * (μ 32 3)) - ((μ 32 1) * (μ 32 2))))) := (by rw [zaZ_n hw hN, if_pos (show w < 2 by omega), if_pos (show w = 1 ∨ w = 3 by omega)]; rfl); exact pm_iret rfl rfl ⟨rfl, by rw [zo]⟩)
          | (have zo : zaZ (μ 32 0) (μ 32 1) (μ 32 2) (μ 32 3) w = (zaF (((μ 32 0) * (μ 32 3)) - ((μ 32 1) * (μ 32 2))) ((((μ 32 0) + (μ 32 3)) - (μ 32 1)) - (μ 32 2)) (if (0 : Int) = 1 then ((((μ 32 0) + (μ 32 3)) - (μ 32 1)) - (μ 32 2)) else (((μ 32 0) * (μ 32 3)) - ((μ 32 1) * (μ 32 2))))) := (by rw [zaZ_n hw hN, if_pos (show w < 2 by omega), if_neg (show ¬ (w = 1 ∨ w = 3) by omega)]; rfl); exact pm_iret rfl rfl ⟨rfl, by rw [zo]⟩)
          | (have zo : zaZ (μ 32 0) (μ 32 1) (μ 32 2) (μ 32 3) w = (zaF (((μ 32 0) * (μ 32 3)) - ((μ 32 1) * (μ 32 2))) ((((μ 32 0) + (μ 32 3)) - (μ 32 1)) - (μ 32 2)) (if (0 : Int) = 1 then ((((μ 32 0) + (μ 32 3)) - (μ 32 1)) - (μ 32 2)) else (((μ 32 0) * (μ 32 3)) - ((μ 32 1) * (μ 32 2))))) := (by rw [zaZ_n hw hN, if_neg (show ¬ w < 2 by omega), if_pos (show w = 1 ∨ w = 3 by omega)]; rfl); exact pm_iret rfl rfl ⟨rfl, by rw [zo]⟩)
          | (have zo : zaZ (μ 32 0) (μ 32 1) (μ 32 2) (μ 32 3) w = (zaF (((μ 32 0) * (μ 32 3)) - ((μ 32 1) * (μ 32 2))) ((((μ 32 0) + (μ 32 3)) - (μ 32 1)) - (μ 32 2)) (if (0 : Int) = 1 then ((((μ 32 0) + (μ 32 3)) - (μ 32 1)) - (μ 32 2)) else (((μ 32 0) * (μ 32 3)) - ((μ 32 1) * (μ 32 2))))) := (by rw [zaZ_n hw hN, if_neg (show ¬ w < 2 by omega), if_neg (show ¬ (w = 1 ∨ w = 3) by omega)]; rfl); exact pm_iret rfl rfl ⟨rfl, by rw [zo]⟩)
        · have h4 : pm_and w 1 = (1 : Int) := h4
          refine pm_blk hK zmm81 [] 2 154 [(2, 32), (0, w), (0, μ 32 0), (0, μ 32 1), (0, μ 32 2), (0, μ 32 3), (0, max (min (μ 32 0) (μ 32 1)) (min (μ 32 2) (μ 32 3))), (0, min (max (μ 32 0) (μ 32 2)) (max (μ 32 1) (μ 32 3))), (0, ((μ 32 0) * (μ 32 3)) - ((μ 32 1) * (μ 32 2)))] [(0, 1), (0, (((μ 32 0) + (μ 32 3)) - (μ 32 1)) - (μ 32 2)), (0, ((μ 32 0) * (μ 32 3)) - ((μ 32 1) * (μ 32 2)))] μ [] rfl trivial ?_
          refine pm_call hK zmm81 (46, 1, 267, 3) zM267 (1, 30) [(0, ((μ 32 0) * (μ 32 3)) - ((μ 32 1) * (μ 32 2))), (0, (((μ 32 0) + (μ 32 3)) - (μ 32 1)) - (μ 32 2)), (0, 1)] [] rfl rfl rfl rfl ⟨by omega, by rw [zn267]; omega⟩ (zh_lowest hK (u := (((μ 32 0) * (μ 32 3)) - ((μ 32 1) * (μ 32 2)))) (v := ((((μ 32 0) + (μ 32 3)) - (μ 32 1)) - (μ 32 2))) (k := 1) ⟨by omega, by omega⟩ ⟨by omega, by omega⟩ (by omega) ⟨by omega, by omega⟩ ⟨Nat.le_refl _, Nat.le_refl _⟩) (fun st10 μc10 hp10 => ?_)
          obtain ⟨rfl, rfl⟩ := hp10
          first
          | (have zo : zaZ (μ 32 0) (μ 32 1) (μ 32 2) (μ 32 3) w = (zaF (((μ 32 0) * (μ 32 3)) - ((μ 32 1) * (μ 32 2))) ((((μ 32 0) + (μ 32 3)) - (μ 32 1)) - (μ 32 2)) (if (1 : Int) = 1 then ((((μ 32 0) + (μ 32 3)) - (μ 32 1)) - (μ 32 2)) else (((μ 32 0) * (μ 32 3)) - ((μ 32 1) * (μ 32 2))))) := (by rw [zaZ_n hw hN, if_pos (show w < 2 by omega), if_pos (show w = 1 ∨ w = 3 by omega)]; rfl); exact pm_iret rfl rfl ⟨rfl, by rw [zo]⟩)
          | (have zo : zaZ (μ 32 0) (μ 32 1) (μ 32 2) (μ 32 3) w = (zaF (((μ 32 0) * (μ 32 3)) - ((μ 32 1) * (μ 32 2))) ((((μ 32 0) + (μ 32 3)) - (μ 32 1)) - (μ 32 2)) (if (1 : Int) = 1 then ((((μ 32 0) + (μ 32 3)) - (μ 32 1)) - (μ 32 2)) else (((μ 32 0) * (μ 32 3)) - ((μ 32 1) * (μ 32 2))))) := (by rw [zaZ_n hw hN, if_pos (show w < 2 by omega), if_neg (show ¬ (w = 1 ∨ w = 3) by omega)]; rfl); exact pm_iret rfl rfl ⟨rfl, by rw [zo]⟩)
          | (have zo : zaZ (μ 32 0) (μ 32 1) (μ 32 2) (μ 32 3) w = (zaF (((μ 32 0) * (μ 32 3)) - ((μ 32 1) * (μ 32 2))) ((((μ 32 0) + (μ 32 3)) - (μ 32 1)) - (μ 32 2)) (if (1 : Int) = 1 then ((((μ 32 0) + (μ 32 3)) - (μ 32 1)) - (μ 32 2)) else (((μ 32 0) * (μ 32 3)) - ((μ 32 1) * (μ 32 2))))) := (by rw [zaZ_n hw hN, if_neg (show ¬ w < 2 by omega), if_pos (show w = 1 ∨ w = 3 by omega)]; rfl); exact pm_iret rfl rfl ⟨rfl, by rw [zo]⟩)
          | (have zo : zaZ (μ 32 0) (μ 32 1) (μ 32 2) (μ 32 3) w = (zaF (((μ 32 0) * (μ 32 3)) - ((μ 32 1) * (μ 32 2))) ((((μ 32 0) + (μ 32 3)) - (μ 32 1)) - (μ 32 2)) (if (1 : Int) = 1 then ((((μ 32 0) + (μ 32 3)) - (μ 32 1)) - (μ 32 2)) else (((μ 32 0) * (μ 32 3)) - ((μ 32 1) * (μ 32 2))))) := (by rw [zaZ_n hw hN, if_neg (show ¬ w < 2 by omega), if_neg (show ¬ (w = 1 ∨ w = 3) by omega)]; rfl); exact pm_iret rfl rfl ⟨rfl, by rw [zo]⟩)
    · have h1 : max (min (μ 32 0) (μ 32 1)) (min (μ 32 2) (μ 32 3)) = min (max (μ 32 0) (μ 32 2)) (max (μ 32 1) (μ 32 3)) := h1
      have hE : zaL (μ 32 0) (μ 32 1) (μ 32 2) (μ 32 3) = zaH (μ 32 0) (μ 32 1) (μ 32 2) (μ 32 3) := h1
      refine pm_blk hK zmm81 [] 2 71 [(2, 32), (0, w), (0, μ 32 0), (0, μ 32 1), (0, μ 32 2), (0, μ 32 3), (0, max (min (μ 32 0) (μ 32 1)) (min (μ 32 2) (μ 32 3))), (0, min (max (μ 32 0) (μ 32 2)) (max (μ 32 1) (μ 32 3))), (9, 0)] [(0, μ 32 1), (0, μ 32 0)] μ [] rfl trivial ?_
      refine pm_call hK zmm81 (43, 1, 30, 2) zM30 (0, 0) [(0, μ 32 0), (0, μ 32 1)] [] rfl rfl rfl rfl ⟨by omega, by rw [zn30]; omega⟩ (zh_min hK ⟨Nat.le_refl _, Nat.le_refl _⟩) (fun st11 μc11 hp11 => ?_)
      obtain ⟨rfl, rfl⟩ := hp11
      refine pm_blk hK zmm81 [] 1 76 [(2, 32), (0, w), (0, μ 32 0), (0, μ 32 1), (0, μ 32 2), (0, μ 32 3), (0, max (min (μ 32 0) (μ 32 1)) (min (μ 32 2) (μ 32 3))), (0, min (max (μ 32 0) (μ 32 2)) (max (μ 32 1) (μ 32 3))), (9, 0)] [(0, max (min (μ 32 0) (μ 32 1)) (min (μ 32 2) (μ 32 3))), (0, min (μ 32 0) (μ 32 1))] μ [] rfl trivial ?_
      refine pm_icmp hK zmm81 .ne 7 83 rfl rfl (fun h5 => ?_) (fun h5 => ?_)
      · have h5 : min (μ 32 0) (μ 32 1) ≠ max (min (μ 32 0) (μ 32 1)) (min (μ 32 2) (μ 32 3)) := h5
        have hM : ¬ min (μ 32 0) (μ 32 1) = zaL (μ 32 0) (μ 32 1) (μ 32 2) (μ 32 3) := h5
        refine pm_blk hK zmm81 [] 3 87 [(2, 32), (0, w), (0, μ 32 0), (0, μ 32 1), (0, μ 32 2), (0, μ 32 3), (0, max (min (μ 32 0) (μ 32 1)) (min (μ 32 2) (μ 32 3))), (0, min (max (μ 32 0) (μ 32 2)) (max (μ 32 1) (μ 32 3))), (0, 0)] [(0, w)] μ [] rfl trivial ?_
        refine pm_if hK zmm81 .ne 8 95 rfl rfl (fun h6 => ?_) (fun h6 => ?_)
        · have h6 : w ≠ (0 : Int) := h6
          refine pm_blk hK zmm81 [] 2 97 [(2, 32), (0, w), (0, μ 32 0), (0, μ 32 1), (0, μ 32 2), (0, μ 32 3), (0, max (min (μ 32 0) (μ 32 1)) (min (μ 32 2) (μ 32 3))), (0, min (max (μ 32 0) (μ 32 2)) (max (μ 32 1) (μ 32 3))), (0, 0)] [(0, 2), (0, w)] μ [] rfl trivial ?_
          refine pm_icmp hK zmm81 .ne 8 105 rfl rfl (fun h7 => ?_) (fun h7 => ?_)
          · have h7 : w ≠ (2 : Int) := h7
            refine pm_blk hK zmm81 [] 1 106 [(2, 32), (0, w), (0, μ 32 0), (0, μ 32 1), (0, μ 32 2), (0, μ 32 3), (0, max (min (μ 32 0) (μ 32 1)) (min (μ 32 2) (μ 32 3))), (0, min (max (μ 32 0) (μ 32 2)) (max (μ 32 1) (μ 32 3))), (0, 0)] [(0, 1)] μ [] rfl trivial ?_
            first
            | (have zo : zaZ (μ 32 0) (μ 32 1) (μ 32 2) (μ 32 3) w = 1 := (by rw [zaZ_e hw hE, if_pos (show w = 0 by omega)]; rfl); exact pm_iret rfl rfl ⟨rfl, by rw [zo]⟩)
            | (have zo : zaZ (μ 32 0) (μ 32 1) (μ 32 2) (μ 32 3) w = 1 := (by rw [zaZ_e hw hE, if_neg (show ¬ w = 0 by omega), if_pos (show w = 2 by omega), if_pos hM]); exact pm_iret rfl rfl ⟨rfl, by rw [zo]⟩)
            | (have zo : zaZ (μ 32 0) (μ 32 1) (μ 32 2) (μ 32 3) w = 1 := (by rw [zaZ_e hw hE, if_neg (show ¬ w = 0 by omega), if_pos (show w = 2 by omega), if_neg hM]); exact pm_iret rfl rfl ⟨rfl, by rw [zo]⟩)
            | (have zo : zaZ (μ 32 0) (μ 32 1) (μ 32 2) (μ 32 3) w = 1 := (by rw [zaZ_e hw hE, if_neg (show ¬ w = 0 by omega), if_neg (show ¬ w = 2 by omega)]); exact pm_iret rfl rfl ⟨rfl, by rw [zo]⟩)
          · have h7 : w = (2 : Int) := h7
            refine pm_blk hK zmm81 [] 2 106 [(2, 32), (0, w), (0, μ 32 0), (0, μ 32 1), (0, μ 32 2), (0, μ 32 3), (0, max (min (μ 32 0) (μ 32 1)) (min (μ 32 2) (μ 32 3))), (0, min (max (μ 32 0) (μ 32 2)) (max (μ 32 1) (μ 32 3))), (0, 0)] [(0, 0)] μ [] rfl trivial ?_
            first
            | (have zo : zaZ (μ 32 0) (μ 32 1) (μ 32 2) (μ 32 3) w = 0 := (by rw [zaZ_e hw hE, if_pos (show w = 0 by omega)]; rfl); exact pm_iret rfl rfl ⟨rfl, by rw [zo]⟩)
            | (have zo : zaZ (μ 32 0) (μ 32 1) (μ 32 2) (μ 32 3) w = 0 := (by rw [zaZ_e hw hE, if_neg (show ¬ w = 0 by omega), if_pos (show w = 2 by omega), if_pos hM]); exact pm_iret rfl rfl ⟨rfl, by rw [zo]⟩)
            | (have zo : zaZ (μ 32 0) (μ 32 1) (μ 32 2) (μ 32 3) w = 0 := (by rw [zaZ_e hw hE, if_neg (show ¬ w = 0 by omega), if_pos (show w = 2 by omega), if_neg hM]); exact pm_iret rfl rfl ⟨rfl, by rw [zo]⟩)
            | (have zo : zaZ (μ 32 0) (μ 32 1) (μ 32 2) (μ 32 3) w = 0 := (by rw [zaZ_e hw hE, if_neg (show ¬ w = 0 by omega), if_neg (show ¬ w = 2 by omega)]); exact pm_iret rfl rfl ⟨rfl, by rw [zo]⟩)
        · have h6 : w = (0 : Int) := h6
          refine pm_blk hK zmm81 [] 2 106 [(2, 32), (0, w), (0, μ 32 0), (0, μ 32 1), (0, μ 32 2), (0, μ 32 3), (0, max (min (μ 32 0) (μ 32 1)) (min (μ 32 2) (μ 32 3))), (0, min (max (μ 32 0) (μ 32 2)) (max (μ 32 1) (μ 32 3))), (0, 0)] [(0, max (min (μ 32 0) (μ 32 1)) (min (μ 32 2) (μ 32 3)))] μ [] rfl trivial ?_
          first
          | (have zo : zaZ (μ 32 0) (μ 32 1) (μ 32 2) (μ 32 3) w = (max (min (μ 32 0) (μ 32 1)) (min (μ 32 2) (μ 32 3))) := (by rw [zaZ_e hw hE, if_pos (show w = 0 by omega)]; rfl); exact pm_iret rfl rfl ⟨rfl, by rw [zo]⟩)
          | (have zo : zaZ (μ 32 0) (μ 32 1) (μ 32 2) (μ 32 3) w = (max (min (μ 32 0) (μ 32 1)) (min (μ 32 2) (μ 32 3))) := (by rw [zaZ_e hw hE, if_neg (show ¬ w = 0 by omega), if_pos (show w = 2 by omega), if_pos hM]); exact pm_iret rfl rfl ⟨rfl, by rw [zo]⟩)
          | (have zo : zaZ (μ 32 0) (μ 32 1) (μ 32 2) (μ 32 3) w = (max (min (μ 32 0) (μ 32 1)) (min (μ 32 2) (μ 32 3))) := (by rw [zaZ_e hw hE, if_neg (show ¬ w = 0 by omega), if_pos (show w = 2 by omega), if_neg hM]); exact pm_iret rfl rfl ⟨rfl, by rw [zo]⟩)
          | (have zo : zaZ (μ 32 0) (μ 32 1) (μ 32 2) (μ 32 3) w = (max (min (μ 32 0) (μ 32 1)) (min (μ 32 2) (μ 32 3))) := (by rw [zaZ_e hw hE, if_neg (show ¬ w = 0 by omega), if_neg (show ¬ w = 2 by omega)]); exact pm_iret rfl rfl ⟨rfl, by rw [zo]⟩)
      · have h5 : min (μ 32 0) (μ 32 1) = max (min (μ 32 0) (μ 32 1)) (min (μ 32 2) (μ 32 3)) := h5
        have hM : min (μ 32 0) (μ 32 1) = zaL (μ 32 0) (μ 32 1) (μ 32 2) (μ 32 3) := h5
        refine pm_blk hK zmm81 [] 4 87 [(2, 32), (0, w), (0, μ 32 0), (0, μ 32 1), (0, μ 32 2), (0, μ 32 3), (0, max (min (μ 32 0) (μ 32 1)) (min (μ 32 2) (μ 32 3))), (0, min (max (μ 32 0) (μ 32 2)) (max (μ 32 1) (μ 32 3))), (0, 1)] [(0, w)] μ [] rfl trivial ?_
        refine pm_if hK zmm81 .ne 8 95 rfl rfl (fun h8 => ?_) (fun h8 => ?_)
        · have h8 : w ≠ (0 : Int) := h8
          refine pm_blk hK zmm81 [] 2 97 [(2, 32), (0, w), (0, μ 32 0), (0, μ 32 1), (0, μ 32 2), (0, μ 32 3), (0, max (min (μ 32 0) (μ 32 1)) (min (μ 32 2) (μ 32 3))), (0, min (max (μ 32 0) (μ 32 2)) (max (μ 32 1) (μ 32 3))), (0, 1)] [(0, 2), (0, w)] μ [] rfl trivial ?_
          refine pm_icmp hK zmm81 .ne 8 105 rfl rfl (fun h9 => ?_) (fun h9 => ?_)
          · have h9 : w ≠ (2 : Int) := h9
            refine pm_blk hK zmm81 [] 1 106 [(2, 32), (0, w), (0, μ 32 0), (0, μ 32 1), (0, μ 32 2), (0, μ 32 3), (0, max (min (μ 32 0) (μ 32 1)) (min (μ 32 2) (μ 32 3))), (0, min (max (μ 32 0) (μ 32 2)) (max (μ 32 1) (μ 32 3))), (0, 1)] [(0, 1)] μ [] rfl trivial ?_
            first
            | (have zo : zaZ (μ 32 0) (μ 32 1) (μ 32 2) (μ 32 3) w = 1 := (by rw [zaZ_e hw hE, if_pos (show w = 0 by omega)]; rfl); exact pm_iret rfl rfl ⟨rfl, by rw [zo]⟩)
            | (have zo : zaZ (μ 32 0) (μ 32 1) (μ 32 2) (μ 32 3) w = 1 := (by rw [zaZ_e hw hE, if_neg (show ¬ w = 0 by omega), if_pos (show w = 2 by omega), if_pos hM]); exact pm_iret rfl rfl ⟨rfl, by rw [zo]⟩)
            | (have zo : zaZ (μ 32 0) (μ 32 1) (μ 32 2) (μ 32 3) w = 1 := (by rw [zaZ_e hw hE, if_neg (show ¬ w = 0 by omega), if_pos (show w = 2 by omega), if_neg hM]); exact pm_iret rfl rfl ⟨rfl, by rw [zo]⟩)
            | (have zo : zaZ (μ 32 0) (μ 32 1) (μ 32 2) (μ 32 3) w = 1 := (by rw [zaZ_e hw hE, if_neg (show ¬ w = 0 by omega), if_neg (show ¬ w = 2 by omega)]); exact pm_iret rfl rfl ⟨rfl, by rw [zo]⟩)
          · have h9 : w = (2 : Int) := h9
            refine pm_blk hK zmm81 [] 2 106 [(2, 32), (0, w), (0, μ 32 0), (0, μ 32 1), (0, μ 32 2), (0, μ 32 3), (0, max (min (μ 32 0) (μ 32 1)) (min (μ 32 2) (μ 32 3))), (0, min (max (μ 32 0) (μ 32 2)) (max (μ 32 1) (μ 32 3))), (0, 1)] [(0, 1)] μ [] rfl trivial ?_
            first
            | (have zo : zaZ (μ 32 0) (μ 32 1) (μ 32 2) (μ 32 3) w = 1 := (by rw [zaZ_e hw hE, if_pos (show w = 0 by omega)]; rfl); exact pm_iret rfl rfl ⟨rfl, by rw [zo]⟩)
            | (have zo : zaZ (μ 32 0) (μ 32 1) (μ 32 2) (μ 32 3) w = 1 := (by rw [zaZ_e hw hE, if_neg (show ¬ w = 0 by omega), if_pos (show w = 2 by omega), if_pos hM]); exact pm_iret rfl rfl ⟨rfl, by rw [zo]⟩)
            | (have zo : zaZ (μ 32 0) (μ 32 1) (μ 32 2) (μ 32 3) w = 1 := (by rw [zaZ_e hw hE, if_neg (show ¬ w = 0 by omega), if_pos (show w = 2 by omega), if_neg hM]); exact pm_iret rfl rfl ⟨rfl, by rw [zo]⟩)
            | (have zo : zaZ (μ 32 0) (μ 32 1) (μ 32 2) (μ 32 3) w = 1 := (by rw [zaZ_e hw hE, if_neg (show ¬ w = 0 by omega), if_neg (show ¬ w = 2 by omega)]); exact pm_iret rfl rfl ⟨rfl, by rw [zo]⟩)
        · have h8 : w = (0 : Int) := h8
          refine pm_blk hK zmm81 [] 2 106 [(2, 32), (0, w), (0, μ 32 0), (0, μ 32 1), (0, μ 32 2), (0, μ 32 3), (0, max (min (μ 32 0) (μ 32 1)) (min (μ 32 2) (μ 32 3))), (0, min (max (μ 32 0) (μ 32 2)) (max (μ 32 1) (μ 32 3))), (0, 1)] [(0, max (min (μ 32 0) (μ 32 1)) (min (μ 32 2) (μ 32 3)))] μ [] rfl trivial ?_
          first
          | (have zo : zaZ (μ 32 0) (μ 32 1) (μ 32 2) (μ 32 3) w = (max (min (μ 32 0) (μ 32 1)) (min (μ 32 2) (μ 32 3))) := (by rw [zaZ_e hw hE, if_pos (show w = 0 by omega)]; rfl); exact pm_iret rfl rfl ⟨rfl, by rw [zo]⟩)
          | (have zo : zaZ (μ 32 0) (μ 32 1) (μ 32 2) (μ 32 3) w = (max (min (μ 32 0) (μ 32 1)) (min (μ 32 2) (μ 32 3))) := (by rw [zaZ_e hw hE, if_neg (show ¬ w = 0 by omega), if_pos (show w = 2 by omega), if_pos hM]); exact pm_iret rfl rfl ⟨rfl, by rw [zo]⟩)
          | (have zo : zaZ (μ 32 0) (μ 32 1) (μ 32 2) (μ 32 3) w = (max (min (μ 32 0) (μ 32 1)) (min (μ 32 2) (μ 32 3))) := (by rw [zaZ_e hw hE, if_neg (show ¬ w = 0 by omega), if_pos (show w = 2 by omega), if_neg hM]); exact pm_iret rfl rfl ⟨rfl, by rw [zo]⟩)
          | (have zo : zaZ (μ 32 0) (μ 32 1) (μ 32 2) (μ 32 3) w = (max (min (μ 32 0) (μ 32 1)) (min (μ 32 2) (μ 32 3))) := (by rw [zaZ_e hw hE, if_neg (show ¬ w = 0 by omega), if_neg (show ¬ w = 2 by omega)]); exact pm_iret rfl rfl ⟨rfl, by rw [zo]⟩)
  · have h0 : (4 : Int) < (4 : Int) := h0
    refine pm_blk hK zmm81 [] 1 9 [(2, 32), (0, w), (9, 0), (9, 0), (9, 0), (9, 0), (9, 0), (9, 0), (9, 0)] [(0, (-10000))] μ [] rfl trivial ?_
    exfalso; omega
set_option maxRecDepth 100000 in
theorem zh_afterx (hK : zKK ST) {w : Int} (hT : zTJ φ μ) (hbd : 3 ≤ bud.1 ∧ 90 ≤ bud.2.1) : zC D Wm ST b0 l Sg zM80 bud [(2, 1), (0, w)] μ (fun st' μ' => zTJ φ μ' ∧ st' = [(0, zaZ (μ 32 0) (μ 32 1) (μ 32 2) (μ 32 3) w)]) := by
  refine pm_blk hK zmm80 [] 3 3 [(2, 1), (0, w)] [(0, 3), (0, 0), (0, w)] μ [] rfl trivial ?_
  refine pm_call hK zmm80 (94, 1, 16, 3) zM16 (0, 0) [(0, w), (0, 0), (0, 3)] [] rfl rfl rfl rfl ⟨by omega, by rw [zn16]; omega⟩ (zh_within hK ⟨Nat.le_refl _, Nat.le_refl _⟩) (fun st1 μc1 hp1 => ?_)
  obtain ⟨rfl, rfl⟩ := hp1
  refine pm_if hK zmm80 .ne 7 13 rfl rfl (fun h0 => ?_) (fun h0 => ?_)
  · have h0 : (if 0 ≤ w ∧ w ≤ 3 then 1 else 0 : Int) ≠ (0 : Int) := h0
    have h0 := zif1 h0
    refine pm_blk hK zmm80 [] 5 24 [(2, 1), (0, w)] [(0, w), (2, 32)] μ [] rfl trivial ?_
    refine pm_call hK zmm80 (316, 1, 81, 2) zM81 (2, 60) [(2, 32), (0, w)] [] rfl rfl rfl rfl ⟨by omega, by rw [zn81]; omega⟩ (zh_afterYou hK (w := w) hT ⟨by omega, by omega⟩ ⟨Nat.le_refl _, Nat.le_refl _⟩) (fun st2 μc2 hp2 => ?_)
    obtain ⟨rfl, rfl⟩ := hp2
    exact pm_iret rfl rfl ⟨hT, rfl⟩
  · have h0 : (if 0 ≤ w ∧ w ≤ 3 then 1 else 0 : Int) = (0 : Int) := h0
    have h0 := zif0 h0
    refine pm_blk hK zmm80 [] 1 12 [(2, 1), (0, w)] [(0, (-10000))] μ [] rfl trivial ?_
    have zo : zaZ (μ 32 0) (μ 32 1) (μ 32 2) (μ 32 3) w = ((-10000)) := zaZ_o (by omega)
    exact pm_iret rfl rfl ⟨hT, by rw [zo]⟩
set_option maxRecDepth 100000 in
theorem zl_comz (hK : zKK ST)  {a b T : Int} (hbd : 0 ≤ bud.1 ∧ 0 ≤ bud.2.1) : ∀ (n : Nat) {x y : Int}, y.toNat = n → ∀ (hx : 0 ≤ x ∧ x ≤ 19602) (hy : 0 ≤ y ∧ y ≤ 19602) (hxy : 1 ≤ x + y) (hz : zgR x y = T), zW D Wm ST b0 l Sg zM178 bud (pm_X zM178 (fun st' μ' => μ = μ' ∧ st' = [(0, T)] ∧ 1 ≤ T ∧ T ≤ 19602)) 23 [(2, 205), (0, a), (0, b), (0, x), (0, y), (9, 0)] [] μ := by
  intro n
  induction n using Nat.strongRecOn with
  | ind n ih =>
    intro x y hn hx hy hxy hz
    refine pm_blk hK zmm178 [] 1 25 [(2, 205), (0, a), (0, b), (0, x), (0, y), (9, 0)] [(0, y)] μ [] rfl trivial ?_
    refine pm_if hK zmm178 .eq 19 44 rfl rfl (fun h0 => ?_) (fun h0 => ?_)
    · have h0 : y = (0 : Int) := h0
      refine pm_blk hK zmm178 [] 1 45 [(2, 205), (0, a), (0, b), (0, x), (0, y), (9, 0)] [(0, x)] μ [] rfl trivial ?_
      have hy0 : y = 0 := h0
      have e : T = x := by rw [← hz, hy0, zgR_z]
      exact pm_iret rfl rfl ⟨rfl, by rw [e], by omega, by omega⟩
    · have h0 : y ≠ (0 : Int) := h0
      have hm : x.tmod y = x % y := Int.tmod_eq_emod_of_nonneg (by omega)
      have hm1 := Int.emod_nonneg x (b := y) (by omega)
      have hm2 := Int.emod_lt_of_pos x (b := y) (by omega)
      refine pm_blk hK zmm178 [] 9 23 [(2, 205), (0, a), (0, b), (0, y), (0, Int.tmod x y), (0, Int.tmod x y)] [] μ [y ≠ 0] rfl ⟨by omega, trivial⟩ ?_
      refine pm_hide [5] ?_
      rw [hm]
      exact ih (x % y).toNat (by omega) rfl ⟨by omega, by omega⟩ ⟨by omega, by omega⟩ (by omega) ((zgR_s hx.1 hy.1 h0).symm.trans hz)
set_option maxRecDepth 100000 in
theorem zh_comz (hK : zKK ST) {a b : Int} (ha : -19602 ≤ a ∧ a ≤ 19602) (hb : -19602 ≤ b ∧ b ≤ 19602) (hab : a ≠ 0 ∨ b ≠ 0) (hbd : 0 ≤ bud.1 ∧ 0 ≤ bud.2.1) : zC D Wm ST b0 l Sg zM178 bud [(2, 205), (0, a), (0, b)] μ (fun st' μ' => μ = μ' ∧ st' = [(0, zgR (zaa a) (zaa b))] ∧ 1 ≤ zgR (zaa a) (zaa b) ∧ zgR (zaa a) (zaa b) ≤ 19602) := by
  refine pm_blk hK zmm178 [] 1 1 [(2, 205), (0, a), (0, b), (9, 0), (9, 0), (9, 0)] [(0, a)] μ [] rfl trivial ?_
  refine pm_if hK zmm178 .ge 8 9 rfl rfl (fun h0 => ?_) (fun h0 => ?_)
  · have h0 : (0 : Int) ≤ a := h0
    refine pm_blk hK zmm178 [] 3 12 [(2, 205), (0, a), (0, b), (0, a), (9, 0), (9, 0)] [(0, b)] μ [] rfl trivial ?_
    refine pm_if hK zmm178 .ge 8 20 rfl rfl (fun h1 => ?_) (fun h1 => ?_)
    · have h1 : (0 : Int) ≤ b := h1
      refine pm_blk hK zmm178 [] 2 23 [(2, 205), (0, a), (0, b), (0, a), (0, b), (9, 0)] [] μ [] rfl trivial ?_
      rw [show zaa a = a by first | exact zaa_p (by omega) | exact zaa_n (by omega), show zaa b = b by first | exact zaa_p (by omega) | exact zaa_n (by omega)]
      exact zl_comz hK hbd _ rfl ⟨by omega, by omega⟩ ⟨by omega, by omega⟩ (by omega) rfl
    · have h1 : b < (0 : Int) := h1
      refine pm_blk hK zmm178 [] 4 23 [(2, 205), (0, a), (0, b), (0, a), (0, -b), (9, 0)] [] μ [pm_in (-b)] rfl ⟨pm_in_mk (by omega) (by omega), trivial⟩ ?_
      rw [show zaa a = a by first | exact zaa_p (by omega) | exact zaa_n (by omega), show zaa b = (-b) by first | exact zaa_p (by omega) | exact zaa_n (by omega)]
      exact zl_comz hK hbd _ rfl ⟨by omega, by omega⟩ ⟨by omega, by omega⟩ (by omega) rfl
  · have h0 : a < (0 : Int) := h0
    refine pm_blk hK zmm178 [] 5 12 [(2, 205), (0, a), (0, b), (0, -a), (9, 0), (9, 0)] [(0, b)] μ [pm_in (-a)] rfl ⟨pm_in_mk (by omega) (by omega), trivial⟩ ?_
    refine pm_if hK zmm178 .ge 8 20 rfl rfl (fun h2 => ?_) (fun h2 => ?_)
    · have h2 : (0 : Int) ≤ b := h2
      refine pm_blk hK zmm178 [] 2 23 [(2, 205), (0, a), (0, b), (0, -a), (0, b), (9, 0)] [] μ [] rfl trivial ?_
      rw [show zaa a = (-a) by first | exact zaa_p (by omega) | exact zaa_n (by omega), show zaa b = b by first | exact zaa_p (by omega) | exact zaa_n (by omega)]
      exact zl_comz hK hbd _ rfl ⟨by omega, by omega⟩ ⟨by omega, by omega⟩ (by omega) rfl
    · have h2 : b < (0 : Int) := h2
      refine pm_blk hK zmm178 [] 4 23 [(2, 205), (0, a), (0, b), (0, -a), (0, -b), (9, 0)] [] μ [pm_in (-b)] rfl ⟨pm_in_mk (by omega) (by omega), trivial⟩ ?_
      rw [show zaa a = (-a) by first | exact zaa_p (by omega) | exact zaa_n (by omega), show zaa b = (-b) by first | exact zaa_p (by omega) | exact zaa_n (by omega)]
      exact zl_comz hK hbd _ rfl ⟨by omega, by omega⟩ ⟨by omega, by omega⟩ (by omega) rfl
set_option maxRecDepth 100000 in
theorem zh_isFraz (hK : zKK ST) {a b : Int} (ha : -19602 ≤ a ∧ a ≤ 19602) (hb : -19602 ≤ b ∧ b ≤ 19602) (hab : a ≠ 0 ∨ b ≠ 0) (hT : zTJ φ μ) (hb205 : sx_bit Wm 205 = true) (hbd : 1 ≤ bud.1 ∧ 25 ≤ bud.2.1) : zC D Wm ST b0 l Sg zM177 bud [(2, 205), (0, a), (0, b)] μ (fun st' μ' => st' = [] ∧ zTJ φ μ' ∧ μ' 205 49 = zaF a b a ∧ μ' 205 50 = zaF a b b) := by
  refine pm_blk hK zmm177 [] 3 3 [(2, 205), (0, a), (0, b), (9, 0)] [(0, b), (0, a), (2, 205)] μ [] rfl trivial ?_
  refine pm_call hK zmm177 (439, 0, 178, 2) zM178 (0, 0) [(2, 205), (0, a), (0, b)] [] rfl rfl rfl rfl ⟨by omega, by rw [zn178]; omega⟩ (zh_comz hK (a := a) (b := b) ⟨by omega, by omega⟩ ⟨by omega, by omega⟩ (by omega) ⟨Nat.le_refl _, Nat.le_refl _⟩) (fun st1 μc1 hp1 => ?_)
  obtain ⟨rfl, rfl, hx1, hy1⟩ := hp1
  refine pm_blk hK zmm177 [] 3 9 [(2, 205), (0, a), (0, b), (0, zgR (zaa a) (zaa b))] [(0, b), (2, 205)] μ [] rfl trivial ?_
  refine pm_if hK zmm177 .ge 8 17 rfl rfl (fun h0 => ?_) (fun h0 => ?_)
  · have h0 : (0 : Int) ≤ b := h0
    refine pm_blk hK zmm177 [] 1 18 [(2, 205), (0, a), (0, b), (0, zgR (zaa a) (zaa b))] [(0, a), (2, 205)] μ [] rfl trivial ?_
    have d1 : -2147483648 ≤ Int.tdiv a (zgR (zaa a) (zaa b)) ∧ Int.tdiv a (zgR (zaa a) (zaa b)) ≤ 2147483647 := ztdiv (by omega) ⟨by omega, by omega⟩
    refine pm_blk hK zmm177 [] 3 23 [(2, 205), (0, a), (0, b), (0, zgR (zaa a) (zaa b))] [] (pm_up μ 205 49 (Int.tdiv a (zgR (zaa a) (zaa b)))) [(zgR (zaa a) (zaa b)) ≠ 0, pm_in (Int.tdiv a (zgR (zaa a) (zaa b))), sx_bit Wm 205 = true] rfl ⟨by omega, pm_in_mk (by omega) (by omega), hb205, trivial⟩ ?_
    obtain ⟨μ1, eμ1⟩ : ∃ μ', μ' = pm_up μ 205 49 (Int.tdiv a (zgR (zaa a) (zaa b))) := ⟨_, rfl⟩
    rw [← eμ1]
    have hTμ1 : zTJ φ μ1 := by rw [eμ1]; exact zT_up hT zs205_49 rfl (i := 49) (by omega) (by omega) (by omega) (by omega)
    refine pm_blk hK zmm177 [] 2 25 [(2, 205), (0, a), (0, b), (0, zgR (zaa a) (zaa b))] [(0, b), (2, 205)] μ1 [] rfl trivial ?_
    refine pm_if hK zmm177 .ge 8 33 rfl rfl (fun h1 => ?_) (fun h1 => ?_)
    · have h1 : (0 : Int) ≤ b := h1
      refine pm_blk hK zmm177 [] 1 34 [(2, 205), (0, a), (0, b), (0, zgR (zaa a) (zaa b))] [(0, b), (2, 205)] μ1 [] rfl trivial ?_
      have d2 : -2147483648 ≤ Int.tdiv b (zgR (zaa a) (zaa b)) ∧ Int.tdiv b (zgR (zaa a) (zaa b)) ≤ 2147483647 := ztdiv (by omega) ⟨by omega, by omega⟩
      refine pm_blk hK zmm177 [] 3 39 [(2, 205), (0, a), (0, b), (0, zgR (zaa a) (zaa b))] [] (pm_up μ1 205 50 (Int.tdiv b (zgR (zaa a) (zaa b)))) [(zgR (zaa a) (zaa b)) ≠ 0, pm_in (Int.tdiv b (zgR (zaa a) (zaa b))), sx_bit Wm 205 = true] rfl ⟨by omega, pm_in_mk (by omega) (by omega), hb205, trivial⟩ ?_
      obtain ⟨μ2, eμ2⟩ : ∃ μ', μ' = pm_up μ1 205 50 (Int.tdiv b (zgR (zaa a) (zaa b))) := ⟨_, rfl⟩
      rw [← eμ2]
      have hTμ2 : zTJ φ μ2 := by rw [eμ2]; exact zT_up hTμ1 zs205_50 rfl (i := 50) (by omega) (by omega) (by omega) (by omega)
      have q1 : μ2 205 49 = zaF a b a := by
        rw [eμ2, pm_up_ne (by decide), eμ1, pm_up_eq]
        first
        | exact (zaF_p (by omega)).symm
        | exact (zaF_n (by omega)).symm
      have q2 : μ2 205 50 = zaF a b b := by
        rw [eμ2, pm_up_eq]
        first
        | exact (zaF_p (by omega)).symm
        | exact (zaF_n (by omega)).symm
      exact pm_vret rfl rfl ⟨rfl, hTμ2, q1, q2⟩
    · have h1 : b < (0 : Int) := h1
      refine pm_blk hK zmm177 [] 3 34 [(2, 205), (0, a), (0, b), (0, zgR (zaa a) (zaa b))] [(0, -b), (2, 205)] μ1 [pm_in (-b)] rfl ⟨pm_in_mk (by omega) (by omega), trivial⟩ ?_
      have d2 : -2147483648 ≤ Int.tdiv (-b) (zgR (zaa a) (zaa b)) ∧ Int.tdiv (-b) (zgR (zaa a) (zaa b)) ≤ 2147483647 := ztdiv (by omega) ⟨by omega, by omega⟩
      refine pm_blk hK zmm177 [] 3 39 [(2, 205), (0, a), (0, b), (0, zgR (zaa a) (zaa b))] [] (pm_up μ1 205 50 (Int.tdiv (-b) (zgR (zaa a) (zaa b)))) [(zgR (zaa a) (zaa b)) ≠ 0, pm_in (Int.tdiv (-b) (zgR (zaa a) (zaa b))), sx_bit Wm 205 = true] rfl ⟨by omega, pm_in_mk (by omega) (by omega), hb205, trivial⟩ ?_
      obtain ⟨μ3, eμ3⟩ : ∃ μ', μ' = pm_up μ1 205 50 (Int.tdiv (-b) (zgR (zaa a) (zaa b))) := ⟨_, rfl⟩
      rw [← eμ3]
      have hTμ3 : zTJ φ μ3 := by rw [eμ3]; exact zT_up hTμ1 zs205_50 rfl (i := 50) (by omega) (by omega) (by omega) (by omega)
      have q1 : μ3 205 49 = zaF a b a := by
        rw [eμ3, pm_up_ne (by decide), eμ1, pm_up_eq]
        first
        | exact (zaF_p (by omega)).symm
        | exact (zaF_n (by omega)).symm
      have q2 : μ3 205 50 = zaF a b b := by
        rw [eμ3, pm_up_eq]
        first
        | exact (zaF_p (by omega)).symm
        | exact (zaF_n (by omega)).symm
      exact pm_vret rfl rfl ⟨rfl, hTμ3, q1, q2⟩
  · have h0 : b < (0 : Int) := h0
    refine pm_blk hK zmm177 [] 3 18 [(2, 205), (0, a), (0, b), (0, zgR (zaa a) (zaa b))] [(0, -a), (2, 205)] μ [pm_in (-a)] rfl ⟨pm_in_mk (by omega) (by omega), trivial⟩ ?_
    have d1 : -2147483648 ≤ Int.tdiv (-a) (zgR (zaa a) (zaa b)) ∧ Int.tdiv (-a) (zgR (zaa a) (zaa b)) ≤ 2147483647 := ztdiv (by omega) ⟨by omega, by omega⟩
    refine pm_blk hK zmm177 [] 3 23 [(2, 205), (0, a), (0, b), (0, zgR (zaa a) (zaa b))] [] (pm_up μ 205 49 (Int.tdiv (-a) (zgR (zaa a) (zaa b)))) [(zgR (zaa a) (zaa b)) ≠ 0, pm_in (Int.tdiv (-a) (zgR (zaa a) (zaa b))), sx_bit Wm 205 = true] rfl ⟨by omega, pm_in_mk (by omega) (by omega), hb205, trivial⟩ ?_
    obtain ⟨μ4, eμ4⟩ : ∃ μ', μ' = pm_up μ 205 49 (Int.tdiv (-a) (zgR (zaa a) (zaa b))) := ⟨_, rfl⟩
    rw [← eμ4]
    have hTμ4 : zTJ φ μ4 := by rw [eμ4]; exact zT_up hT zs205_49 rfl (i := 49) (by omega) (by omega) (by omega) (by omega)
    refine pm_blk hK zmm177 [] 2 25 [(2, 205), (0, a), (0, b), (0, zgR (zaa a) (zaa b))] [(0, b), (2, 205)] μ4 [] rfl trivial ?_
    refine pm_if hK zmm177 .ge 8 33 rfl rfl (fun h2 => ?_) (fun h2 => ?_)
    · have h2 : (0 : Int) ≤ b := h2
      refine pm_blk hK zmm177 [] 1 34 [(2, 205), (0, a), (0, b), (0, zgR (zaa a) (zaa b))] [(0, b), (2, 205)] μ4 [] rfl trivial ?_
      have d2 : -2147483648 ≤ Int.tdiv b (zgR (zaa a) (zaa b)) ∧ Int.tdiv b (zgR (zaa a) (zaa b)) ≤ 2147483647 := ztdiv (by omega) ⟨by omega, by omega⟩
      refine pm_blk hK zmm177 [] 3 39 [(2, 205), (0, a), (0, b), (0, zgR (zaa a) (zaa b))] [] (pm_up μ4 205 50 (Int.tdiv b (zgR (zaa a) (zaa b)))) [(zgR (zaa a) (zaa b)) ≠ 0, pm_in (Int.tdiv b (zgR (zaa a) (zaa b))), sx_bit Wm 205 = true] rfl ⟨by omega, pm_in_mk (by omega) (by omega), hb205, trivial⟩ ?_
      obtain ⟨μ5, eμ5⟩ : ∃ μ', μ' = pm_up μ4 205 50 (Int.tdiv b (zgR (zaa a) (zaa b))) := ⟨_, rfl⟩
      rw [← eμ5]
      have hTμ5 : zTJ φ μ5 := by rw [eμ5]; exact zT_up hTμ4 zs205_50 rfl (i := 50) (by omega) (by omega) (by omega) (by omega)
      have q1 : μ5 205 49 = zaF a b a := by
        rw [eμ5, pm_up_ne (by decide), eμ4, pm_up_eq]
        first
        | exact (zaF_p (by omega)).symm
        | exact (zaF_n (by omega)).symm
      have q2 : μ5 205 50 = zaF a b b := by
        rw [eμ5, pm_up_eq]
        first
        | exact (zaF_p (by omega)).symm
        | exact (zaF_n (by omega)).symm
      exact pm_vret rfl rfl ⟨rfl, hTμ5, q1, q2⟩
    · have h2 : b < (0 : Int) := h2
      refine pm_blk hK zmm177 [] 3 34 [(2, 205), (0, a), (0, b), (0, zgR (zaa a) (zaa b))] [(0, -b), (2, 205)] μ4 [pm_in (-b)] rfl ⟨pm_in_mk (by omega) (by omega), trivial⟩ ?_
      have d2 : -2147483648 ≤ Int.tdiv (-b) (zgR (zaa a) (zaa b)) ∧ Int.tdiv (-b) (zgR (zaa a) (zaa b)) ≤ 2147483647 := ztdiv (by omega) ⟨by omega, by omega⟩
      refine pm_blk hK zmm177 [] 3 39 [(2, 205), (0, a), (0, b), (0, zgR (zaa a) (zaa b))] [] (pm_up μ4 205 50 (Int.tdiv (-b) (zgR (zaa a) (zaa b)))) [(zgR (zaa a) (zaa b)) ≠ 0, pm_in (Int.tdiv (-b) (zgR (zaa a) (zaa b))), sx_bit Wm 205 = true] rfl ⟨by omega, pm_in_mk (by omega) (by omega), hb205, trivial⟩ ?_
      obtain ⟨μ6, eμ6⟩ : ∃ μ', μ' = pm_up μ4 205 50 (Int.tdiv (-b) (zgR (zaa a) (zaa b))) := ⟨_, rfl⟩
      rw [← eμ6]
      have hTμ6 : zTJ φ μ6 := by rw [eμ6]; exact zT_up hTμ4 zs205_50 rfl (i := 50) (by omega) (by omega) (by omega) (by omega)
      have q1 : μ6 205 49 = zaF a b a := by
        rw [eμ6, pm_up_ne (by decide), eμ4, pm_up_eq]
        first
        | exact (zaF_p (by omega)).symm
        | exact (zaF_n (by omega)).symm
      have q2 : μ6 205 50 = zaF a b b := by
        rw [eμ6, pm_up_eq]
        first
        | exact (zaF_p (by omega)).symm
        | exact (zaF_n (by omega)).symm
      exact pm_vret rfl rfl ⟨rfl, hTμ6, q1, q2⟩
set_option maxRecDepth 100000 in
theorem zh_afterm (hK : zKK ST) {w : Int} (hT : zTJ φ μ) (hb205 : sx_bit Wm 205 = true) (hbd : 2 ≤ bud.1 ∧ 48 ≤ bud.2.1) : zC D Wm ST b0 l Sg zM175 bud [(2, 205), (0, w)] μ (fun st' μ' => zTJ φ μ' ∧ st' = [(0, zaZ (μ 232 0) (μ 232 1) (μ 232 2) (μ 232 3) w)]) := by
  refine pm_blk hK zmm175 [] 3 5 [(2, 205), (0, w), (9, 0), (9, 0), (9, 0), (9, 0), (9, 0), (9, 0), (9, 0)] [] (pm_up μ 205 0 0) [sx_bit Wm 205 = true] rfl ⟨hb205, trivial⟩ ?_
  obtain ⟨μ1, eμ1⟩ : ∃ μ', μ' = pm_up μ 205 0 0 := ⟨_, rfl⟩
  rw [← eμ1]
  have hTμ1 : zTJ φ μ1 := by rw [eμ1]; exact zT_up hT zs205_0 rfl (i := 0) (by omega) (by omega) (by omega) (by omega)
  have b0 : μ1 232 = μ 232 := by rw [eμ1, pm_up_row (by decide)]
  refine pm_blk hK zmm175 [] 4 9 [(2, 205), (0, w), (9, 0), (9, 0), (9, 0), (9, 0), (9, 0), (9, 0), (9, 0)] [(0, 3), (0, 0), (0, w), (2, 205)] μ1 [] rfl trivial ?_
  refine pm_call hK zmm175 (158, 0, 129, 3) zM129 (0, 0) [(2, 205), (0, w), (0, 0), (0, 3)] [] rfl rfl rfl rfl ⟨by omega, by rw [zn129]; omega⟩ (zh_isIn hK ⟨by omega, by omega⟩) (fun st1 μc1 hp1 => ?_)
  obtain ⟨rfl, rfl⟩ := hp1
  refine pm_if hK zmm175 .ne 7 19 rfl rfl (fun h0 => ?_) (fun h0 => ?_)
  · have h0 : (if 0 ≤ w ∧ w ≤ 3 then 1 else 0 : Int) ≠ (0 : Int) := h0
    have h0 := zif1 h0
    have g1 : μ1 232 0 = μ 232 0 := by rw [eμ1, pm_up_off (by decide)]
    have f2 := zT_get hTμ1 zs232_0 (i := 0) (by omega) (by omega)
    have g3 : μ1 232 1 = μ 232 1 := by rw [eμ1, pm_up_off (by decide)]
    have f4 := zT_get hTμ1 zs232_0 (i := 1) (by omega) (by omega)
    have g5 : μ1 232 2 = μ 232 2 := by rw [eμ1, pm_up_off (by decide)]
    have f6 := zT_get hTμ1 zs232_0 (i := 2) (by omega) (by omega)
    have g7 : μ1 232 3 = μ 232 3 := by rw [eμ1, pm_up_off (by decide)]
    have f8 := zT_get hTμ1 zs232_0 (i := 3) (by omega) (by omega)
    refine pm_blk hK zmm175 [] 24 53 [(2, 205), (0, w), (0, μ1 232 0), (0, μ1 232 1), (0, μ1 232 2), (0, μ1 232 3), (9, 0), (9, 0), (9, 0)] [(0, μ1 232 1), (0, μ1 232 0), (2, 205), (2, 205)] μ1 [0 ≤ 0 ∧ 0 < 4, 0 ≤ 1 ∧ 1 < 4, 0 ≤ 2 ∧ 2 < 4, 0 ≤ 3 ∧ 3 < 4] rfl ⟨⟨by omega, by omega⟩, ⟨by omega, by omega⟩, ⟨by omega, by omega⟩, ⟨by omega, by omega⟩, trivial⟩ ?_
    refine pm_call hK zmm175 (377, 0, 157, 2) zM157 (0, 0) [(2, 205), (0, μ1 232 0), (0, μ1 232 1)] [(2, 205)] rfl rfl rfl rfl ⟨by omega, by rw [zn157]; omega⟩ (zh_lesser hK ⟨by omega, by omega⟩) (fun st2 μc2 hp2 => ?_)
    obtain ⟨rfl, rfl⟩ := hp2
    refine pm_blk hK zmm175 [] 3 61 [(2, 205), (0, w), (0, μ1 232 0), (0, μ1 232 1), (0, μ1 232 2), (0, μ1 232 3), (9, 0), (9, 0), (9, 0)] [(0, μ1 232 3), (0, μ1 232 2), (2, 205), (0, min (μ1 232 0) (μ1 232 1)), (2, 205)] μ1 [] rfl trivial ?_
    refine pm_call hK zmm175 (377, 0, 157, 2) zM157 (0, 0) [(2, 205), (0, μ1 232 2), (0, μ1 232 3)] [(0, min (μ1 232 0) (μ1 232 1)), (2, 205)] rfl rfl rfl rfl ⟨by omega, by rw [zn157]; omega⟩ (zh_lesser hK ⟨by omega, by omega⟩) (fun st3 μc3 hp3 => ?_)
    obtain ⟨rfl, rfl⟩ := hp3
    refine pm_call hK zmm175 (448, 0, 176, 2) zM176 (0, 0) [(2, 205), (0, min (μ1 232 0) (μ1 232 1)), (0, min (μ1 232 2) (μ1 232 3))] [] rfl rfl rfl rfl ⟨by omega, by rw [zn176]; omega⟩ (zh_greater hK ⟨by omega, by omega⟩) (fun st4 μc4 hp4 => ?_)
    obtain ⟨rfl, rfl⟩ := hp4
    refine pm_blk hK zmm175 [] 5 74 [(2, 205), (0, w), (0, μ1 232 0), (0, μ1 232 1), (0, μ1 232 2), (0, μ1 232 3), (0, max (min (μ1 232 0) (μ1 232 1)) (min (μ1 232 2) (μ1 232 3))), (9, 0), (9, 0)] [(0, μ1 232 2), (0, μ1 232 0), (2, 205), (2, 205)] μ1 [] rfl trivial ?_
    refine pm_call hK zmm175 (448, 0, 176, 2) zM176 (0, 0) [(2, 205), (0, μ1 232 0), (0, μ1 232 2)] [(2, 205)] rfl rfl rfl rfl ⟨by omega, by rw [zn176]; omega⟩ (zh_greater hK ⟨by omega, by omega⟩) (fun st5 μc5 hp5 => ?_)
    obtain ⟨rfl, rfl⟩ := hp5
    refine pm_blk hK zmm175 [] 3 81 [(2, 205), (0, w), (0, μ1 232 0), (0, μ1 232 1), (0, μ1 232 2), (0, μ1 232 3), (0, max (min (μ1 232 0) (μ1 232 1)) (min (μ1 232 2) (μ1 232 3))), (9, 0), (9, 0)] [(0, μ1 232 3), (0, μ1 232 1), (2, 205), (0, max (μ1 232 0) (μ1 232 2)), (2, 205)] μ1 [] rfl trivial ?_
    refine pm_call hK zmm175 (448, 0, 176, 2) zM176 (0, 0) [(2, 205), (0, μ1 232 1), (0, μ1 232 3)] [(0, max (μ1 232 0) (μ1 232 2)), (2, 205)] rfl rfl rfl rfl ⟨by omega, by rw [zn176]; omega⟩ (zh_greater hK ⟨by omega, by omega⟩) (fun st6 μc6 hp6 => ?_)
    obtain ⟨rfl, rfl⟩ := hp6
    refine pm_call hK zmm175 (377, 0, 157, 2) zM157 (0, 0) [(2, 205), (0, max (μ1 232 0) (μ1 232 2)), (0, max (μ1 232 1) (μ1 232 3))] [] rfl rfl rfl rfl ⟨by omega, by rw [zn157]; omega⟩ (zh_lesser hK ⟨by omega, by omega⟩) (fun st7 μc7 hp7 => ?_)
    obtain ⟨rfl, rfl⟩ := hp7
    refine pm_blk hK zmm175 [] 3 91 [(2, 205), (0, w), (0, μ1 232 0), (0, μ1 232 1), (0, μ1 232 2), (0, μ1 232 3), (0, max (min (μ1 232 0) (μ1 232 1)) (min (μ1 232 2) (μ1 232 3))), (0, min (max (μ1 232 0) (μ1 232 2)) (max (μ1 232 1) (μ1 232 3))), (9, 0)] [(0, 2), (0, w)] μ1 [] rfl trivial ?_
    refine pm_icmp hK zmm175 .ge 7 98 rfl rfl (fun h1 => ?_) (fun h1 => ?_)
    · have h1 : (2 : Int) ≤ w := h1
      refine pm_blk hK zmm175 [] 4 105 [(2, 205), (0, w), (0, μ1 232 0), (0, μ1 232 1), (0, μ1 232 2), (0, μ1 232 3), (0, max (min (μ1 232 0) (μ1 232 1)) (min (μ1 232 2) (μ1 232 3))), (0, min (max (μ1 232 0) (μ1 232 2)) (max (μ1 232 1) (μ1 232 3))), (0, 0)] [(0, min (max (μ1 232 0) (μ1 232 2)) (max (μ1 232 1) (μ1 232 3))), (0, max (min (μ1 232 0) (μ1 232 1)) (min (μ1 232 2) (μ1 232 3)))] μ1 [] rfl trivial ?_
      refine pm_icmp hK zmm175 .ne 37 142 rfl rfl (fun h2 => ?_) (fun h2 => ?_)
      · have h2 : max (min (μ1 232 0) (μ1 232 1)) (min (μ1 232 2) (μ1 232 3)) ≠ min (max (μ1 232 0) (μ1 232 2)) (max (μ1 232 1) (μ1 232 3)) := h2
        have hN : zaL (μ1 232 0) (μ1 232 1) (μ1 232 2) (μ1 232 3) ≠ zaH (μ1 232 0) (μ1 232 1) (μ1 232 2) (μ1 232 3) := h2
        have hD := zaD hN
        refine pm_blk hK zmm175 [] 2 145 [(2, 205), (0, w), (0, μ1 232 0), (0, μ1 232 1), (0, μ1 232 2), (0, μ1 232 3), (0, max (min (μ1 232 0) (μ1 232 1)) (min (μ1 232 2) (μ1 232 3))), (0, min (max (μ1 232 0) (μ1 232 2)) (max (μ1 232 1) (μ1 232 3))), (0, 0)] [(0, 0), (2, 205)] μ1 [] rfl trivial ?_
        refine pm_if hK zmm175 .eq 15 160 rfl rfl (fun h3 => ?_) (fun h3 => ?_)
        · have h3 : (0 : Int) = (0 : Int) := h3
          refine pm_blk hK zmm175 [] 10 174 [(2, 205), (0, w), (0, μ1 232 0), (0, μ1 232 1), (0, μ1 232 2), (0, μ1 232 3), (0, max (min (μ1 232 0) (μ1 232 1)) (min (μ1 232 2) (μ1 232 3))), (0, min (max (μ1 232 0) (μ1 232 2)) (max (μ1 232 1) (μ1 232 3))), (0, 0)] [(0, (((μ1 232 0) + (μ1 232 3)) - (μ1 232 1)) - (μ1 232 2)), (0, (μ1 232 3) - (μ1 232 2)), (2, 205)] μ1 [pm_in ((μ1 232 3) - (μ1 232 2)), pm_in ((μ1 232 0) + (μ1 232 3)), pm_in (((μ1 232 0) + (μ1 232 3)) - (μ1 232 1)), pm_in ((((μ1 232 0) + (μ1 232 3)) - (μ1 232 1)) - (μ1 232 2))] rfl ⟨pm_in_mk (by omega) (by omega), pm_in_mk (by omega) (by omega), pm_in_mk (by omega) (by omega), pm_in_mk (by omega) (by omega), trivial⟩ ?_
          refine pm_call hK zmm175 (451, 0, 177, 2) zM177 (1, 25) [(2, 205), (0, (μ1 232 3) - (μ1 232 2)), (0, (((μ1 232 0) + (μ1 232 3)) - (μ1 232 1)) - (μ1 232 2))] [] rfl rfl rfl rfl ⟨by omega, by rw [zn177]; omega⟩ (zh_isFraz hK (a := ((μ1 232 3) - (μ1 232 2))) (b := ((((μ1 232 0) + (μ1 232 3)) - (μ1 232 1)) - (μ1 232 2))) ⟨by omega, by omega⟩ ⟨by omega, by omega⟩ (by omega) hTμ1 hb205 ⟨Nat.le_refl _, Nat.le_refl _⟩) (fun st8 μc8 hp8 => ?_)
          obtain ⟨rfl, hTc8, hu, hd⟩ := hp8
          have hm : Int.tmod w 2 = w % 2 := Int.tmod_eq_emod_of_nonneg (by omega)
          refine pm_blk hK zmm175 [] 3 180 [(2, 205), (0, w), (0, μ1 232 0), (0, μ1 232 1), (0, μ1 232 2), (0, μ1 232 3), (0, max (min (μ1 232 0) (μ1 232 1)) (min (μ1 232 2) (μ1 232 3))), (0, min (max (μ1 232 0) (μ1 232 2)) (max (μ1 232 1) (μ1 232 3))), (0, 0)] [(0, Int.tmod w 2)] μc8 [2 ≠ 0] rfl ⟨by omega, trivial⟩ ?_
          refine pm_if hK zmm175 .ne 10 190 rfl rfl (fun h4 => ?_) (fun h4 => ?_)
          · have h4 : Int.tmod w 2 ≠ (0 : Int) := h4
            have f9 := zT_get hTc8 zs205_50 (i := 50) (by omega) (by omega)
            refine pm_blk hK zmm175 [] 2 194 [(2, 205), (0, w), (0, μ1 232 0), (0, μ1 232 1), (0, μ1 232 2), (0, μ1 232 3), (0, max (min (μ1 232 0) (μ1 232 1)) (min (μ1 232 2) (μ1 232 3))), (0, min (max (μ1 232 0) (μ1 232 2)) (max (μ1 232 1) (μ1 232 3))), (0, 0)] [(0, μc8 205 50)] μc8 [] rfl trivial ?_
            rw [← b0]
            first
            | (have zo : zaZ (μ1 232 0) (μ1 232 1) (μ1 232 2) (μ1 232 3) w = (μc8 205 50) := (by rw [zaZ_e ⟨by omega, by omega⟩ hE, hu, zaF_1, if_pos (show w = 0 by omega)]; rfl); exact pm_iret rfl rfl ⟨hTc8, by rw [zo]⟩)
            | (have zo : zaZ (μ1 232 0) (μ1 232 1) (μ1 232 2) (μ1 232 3) w = (μc8 205 50) := (by rw [zaZ_e ⟨by omega, by omega⟩ hE, hu, zaF_1, if_neg (show ¬ w = 0 by omega), if_pos (show w = 2 by omega), if_pos hM]); exact pm_iret rfl rfl ⟨hTc8, by rw [zo]⟩)
            | (have zo : zaZ (μ1 232 0) (μ1 232 1) (μ1 232 2) (μ1 232 3) w = (μc8 205 50) := (by rw [zaZ_e ⟨by omega, by omega⟩ hE, hu, zaF_1, if_neg (show ¬ w = 0 by omega), if_pos (show w = 2 by omega), if_neg hM]); exact pm_iret rfl rfl ⟨hTc8, by rw [zo]⟩)
            | (have zo : zaZ (μ1 232 0) (μ1 232 1) (μ1 232 2) (μ1 232 3) w = (μc8 205 50) := (by rw [zaZ_e ⟨by omega, by omega⟩ hE, hd, zaF_1b, if_neg (show ¬ w = 0 by omega), if_neg (show ¬ w = 2 by omega)]); exact pm_iret rfl rfl ⟨hTc8, by rw [zo]⟩)
            | (have zo : zaZ (μ1 232 0) (μ1 232 1) (μ1 232 2) (μ1 232 3) w = (μc8 205 50) := (by rw [zaZ_n ⟨by omega, by omega⟩ hN, hd, if_pos (show w < 2 by omega), if_pos (show w = 1 ∨ w = 3 by omega)]); exact pm_iret rfl rfl ⟨hTc8, by rw [zo]⟩)
            | (have zo : zaZ (μ1 232 0) (μ1 232 1) (μ1 232 2) (μ1 232 3) w = (μc8 205 50) := (by rw [zaZ_n ⟨by omega, by omega⟩ hN, hu, if_pos (show w < 2 by omega), if_neg (show ¬ (w = 1 ∨ w = 3) by omega)]); exact pm_iret rfl rfl ⟨hTc8, by rw [zo]⟩)
            | (have zo : zaZ (μ1 232 0) (μ1 232 1) (μ1 232 2) (μ1 232 3) w = (μc8 205 50) := (by rw [zaZ_n ⟨by omega, by omega⟩ hN, hd, if_neg (show ¬ w < 2 by omega), if_pos (show w = 1 ∨ w = 3 by omega)]); exact pm_iret rfl rfl ⟨hTc8, by rw [zo]⟩)
            | (have zo : zaZ (μ1 232 0) (μ1 232 1) (μ1 232 2) (μ1 232 3) w = (μc8 205 50) := (by rw [zaZ_n ⟨by omega, by omega⟩ hN, hu, if_neg (show ¬ w < 2 by omega), if_neg (show ¬ (w = 1 ∨ w = 3) by omega)]); exact pm_iret rfl rfl ⟨hTc8, by rw [zo]⟩)
          · have h4 : Int.tmod w 2 = (0 : Int) := h4
            have f10 := zT_get hTc8 zs205_49 (i := 49) (by omega) (by omega)
            refine pm_blk hK zmm175 [] 3 194 [(2, 205), (0, w), (0, μ1 232 0), (0, μ1 232 1), (0, μ1 232 2), (0, μ1 232 3), (0, max (min (μ1 232 0) (μ1 232 1)) (min (μ1 232 2) (μ1 232 3))), (0, min (max (μ1 232 0) (μ1 232 2)) (max (μ1 232 1) (μ1 232 3))), (0, 0)] [(0, μc8 205 49)] μc8 [] rfl trivial ?_
            rw [← b0]
            first
            | (have zo : zaZ (μ1 232 0) (μ1 232 1) (μ1 232 2) (μ1 232 3) w = (μc8 205 49) := (by rw [zaZ_e ⟨by omega, by omega⟩ hE, hu, zaF_1, if_pos (show w = 0 by omega)]; rfl); exact pm_iret rfl rfl ⟨hTc8, by rw [zo]⟩)
            | (have zo : zaZ (μ1 232 0) (μ1 232 1) (μ1 232 2) (μ1 232 3) w = (μc8 205 49) := (by rw [zaZ_e ⟨by omega, by omega⟩ hE, hu, zaF_1, if_neg (show ¬ w = 0 by omega), if_pos (show w = 2 by omega), if_pos hM]); exact pm_iret rfl rfl ⟨hTc8, by rw [zo]⟩)
            | (have zo : zaZ (μ1 232 0) (μ1 232 1) (μ1 232 2) (μ1 232 3) w = (μc8 205 49) := (by rw [zaZ_e ⟨by omega, by omega⟩ hE, hu, zaF_1, if_neg (show ¬ w = 0 by omega), if_pos (show w = 2 by omega), if_neg hM]); exact pm_iret rfl rfl ⟨hTc8, by rw [zo]⟩)
            | (have zo : zaZ (μ1 232 0) (μ1 232 1) (μ1 232 2) (μ1 232 3) w = (μc8 205 49) := (by rw [zaZ_e ⟨by omega, by omega⟩ hE, hd, zaF_1b, if_neg (show ¬ w = 0 by omega), if_neg (show ¬ w = 2 by omega)]); exact pm_iret rfl rfl ⟨hTc8, by rw [zo]⟩)
            | (have zo : zaZ (μ1 232 0) (μ1 232 1) (μ1 232 2) (μ1 232 3) w = (μc8 205 49) := (by rw [zaZ_n ⟨by omega, by omega⟩ hN, hd, if_pos (show w < 2 by omega), if_pos (show w = 1 ∨ w = 3 by omega)]); exact pm_iret rfl rfl ⟨hTc8, by rw [zo]⟩)
            | (have zo : zaZ (μ1 232 0) (μ1 232 1) (μ1 232 2) (μ1 232 3) w = (μc8 205 49) := (by rw [zaZ_n ⟨by omega, by omega⟩ hN, hu, if_pos (show w < 2 by omega), if_neg (show ¬ (w = 1 ∨ w = 3) by omega)]); exact pm_iret rfl rfl ⟨hTc8, by rw [zo]⟩)
            | (have zo : zaZ (μ1 232 0) (μ1 232 1) (μ1 232 2) (μ1 232 3) w = (μc8 205 49) := (by rw [zaZ_n ⟨by omega, by omega⟩ hN, hd, if_neg (show ¬ w < 2 by omega), if_pos (show w = 1 ∨ w = 3 by omega)]); exact pm_iret rfl rfl ⟨hTc8, by rw [zo]⟩)
            | (have zo : zaZ (μ1 232 0) (μ1 232 1) (μ1 232 2) (μ1 232 3) w = (μc8 205 49) := (by rw [zaZ_n ⟨by omega, by omega⟩ hN, hu, if_neg (show ¬ w < 2 by omega), if_neg (show ¬ (w = 1 ∨ w = 3) by omega)]); exact pm_iret rfl rfl ⟨hTc8, by rw [zo]⟩)
        · have h3 : (0 : Int) ≠ (0 : Int) := h3
          exact absurd h3 (by decide)
      · have h2 : max (min (μ1 232 0) (μ1 232 1)) (min (μ1 232 2) (μ1 232 3)) = min (max (μ1 232 0) (μ1 232 2)) (max (μ1 232 1) (μ1 232 3)) := h2
        have hE : zaL (μ1 232 0) (μ1 232 1) (μ1 232 2) (μ1 232 3) = zaH (μ1 232 0) (μ1 232 1) (μ1 232 2) (μ1 232 3) := h2
        refine pm_blk hK zmm175 [] 2 111 [(2, 205), (0, w), (0, μ1 232 0), (0, μ1 232 1), (0, μ1 232 2), (0, μ1 232 3), (0, max (min (μ1 232 0) (μ1 232 1)) (min (μ1 232 2) (μ1 232 3))), (0, min (max (μ1 232 0) (μ1 232 2)) (max (μ1 232 1) (μ1 232 3))), (0, 0)] [(0, 0), (2, 205)] μ1 [] rfl trivial ?_
        refine pm_if hK zmm175 .eq 8 119 rfl rfl (fun h5 => ?_) (fun h5 => ?_)
        · have h5 : (0 : Int) = (0 : Int) := h5
          refine pm_blk hK zmm175 [] 3 122 [(2, 205), (0, w), (0, μ1 232 0), (0, μ1 232 1), (0, μ1 232 2), (0, μ1 232 3), (0, max (min (μ1 232 0) (μ1 232 1)) (min (μ1 232 2) (μ1 232 3))), (0, min (max (μ1 232 0) (μ1 232 2)) (max (μ1 232 1) (μ1 232 3))), (0, 0)] [(0, μ1 232 1), (0, μ1 232 0), (2, 205), (2, 205)] μ1 [] rfl trivial ?_
          refine pm_call hK zmm175 (377, 0, 157, 2) zM157 (0, 0) [(2, 205), (0, μ1 232 0), (0, μ1 232 1)] [(2, 205)] rfl rfl rfl rfl ⟨by omega, by rw [zn157]; omega⟩ (zh_lesser hK ⟨by omega, by omega⟩) (fun st9 μc9 hp9 => ?_)
          obtain ⟨rfl, rfl⟩ := hp9
          refine pm_blk hK zmm175 [] 1 127 [(2, 205), (0, w), (0, μ1 232 0), (0, μ1 232 1), (0, μ1 232 2), (0, μ1 232 3), (0, max (min (μ1 232 0) (μ1 232 1)) (min (μ1 232 2) (μ1 232 3))), (0, min (max (μ1 232 0) (μ1 232 2)) (max (μ1 232 1) (μ1 232 3))), (0, 0)] [(0, max (min (μ1 232 0) (μ1 232 1)) (min (μ1 232 2) (μ1 232 3))), (0, min (μ1 232 0) (μ1 232 1)), (2, 205)] μ1 [] rfl trivial ?_
          refine pm_icmp hK zmm175 .ne 7 134 rfl rfl (fun h6 => ?_) (fun h6 => ?_)
          · have h6 : min (μ1 232 0) (μ1 232 1) ≠ max (min (μ1 232 0) (μ1 232 1)) (min (μ1 232 2) (μ1 232 3)) := h6
            have hM : ¬ min (μ1 232 0) (μ1 232 1) = zaL (μ1 232 0) (μ1 232 1) (μ1 232 2) (μ1 232 3) := h6
            refine pm_blk hK zmm175 [] 2 136 [(2, 205), (0, w), (0, μ1 232 0), (0, μ1 232 1), (0, μ1 232 2), (0, μ1 232 3), (0, max (min (μ1 232 0) (μ1 232 1)) (min (μ1 232 2) (μ1 232 3))), (0, min (max (μ1 232 0) (μ1 232 2)) (max (μ1 232 1) (μ1 232 3))), (0, 0)] [(0, 1), (0, 0), (2, 205)] μ1 [] rfl trivial ?_
            refine pm_call hK zmm175 (451, 0, 177, 2) zM177 (1, 25) [(2, 205), (0, 0), (0, 1)] [] rfl rfl rfl rfl ⟨by omega, by rw [zn177]; omega⟩ (zh_isFraz hK (a := 0) (b := 1) ⟨by omega, by omega⟩ ⟨by omega, by omega⟩ (by omega) hTμ1 hb205 ⟨Nat.le_refl _, Nat.le_refl _⟩) (fun st10 μc10 hp10 => ?_)
            obtain ⟨rfl, hTc10, hu, hd⟩ := hp10
            refine pm_blk hK zmm175 [] 1 177 [(2, 205), (0, w), (0, μ1 232 0), (0, μ1 232 1), (0, μ1 232 2), (0, μ1 232 3), (0, max (min (μ1 232 0) (μ1 232 1)) (min (μ1 232 2) (μ1 232 3))), (0, min (max (μ1 232 0) (μ1 232 2)) (max (μ1 232 1) (μ1 232 3))), (0, 0)] [] μc10 [] rfl trivial ?_
            have hm : Int.tmod w 2 = w % 2 := Int.tmod_eq_emod_of_nonneg (by omega)
            refine pm_blk hK zmm175 [] 3 180 [(2, 205), (0, w), (0, μ1 232 0), (0, μ1 232 1), (0, μ1 232 2), (0, μ1 232 3), (0, max (min (μ1 232 0) (μ1 232 1)) (min (μ1 232 2) (μ1 232 3))), (0, min (max (μ1 232 0) (μ1 232 2)) (max (μ1 232 1) (μ1 232 3))), (0, 0)] [(0, Int.tmod w 2)] μc10 [2 ≠ 0] rfl ⟨by omega, trivial⟩ ?_
            refine pm_if hK zmm175 .ne 10 190 rfl rfl (fun h7 => ?_) (fun h7 => ?_)
            · have h7 : Int.tmod w 2 ≠ (0 : Int) := h7
              have f11 := zT_get hTc10 zs205_50 (i := 50) (by omega) (by omega)
              refine pm_blk hK zmm175 [] 2 194 [(2, 205), (0, w), (0, μ1 232 0), (0, μ1 232 1), (0, μ1 232 2), (0, μ1 232 3), (0, max (min (μ1 232 0) (μ1 232 1)) (min (μ1 232 2) (μ1 232 3))), (0, min (max (μ1 232 0) (μ1 232 2)) (max (μ1 232 1) (μ1 232 3))), (0, 0)] [(0, μc10 205 50)] μc10 [] rfl trivial ?_
              rw [← b0]
              first
              | (have zo : zaZ (μ1 232 0) (μ1 232 1) (μ1 232 2) (μ1 232 3) w = (μc10 205 50) := (by rw [zaZ_e ⟨by omega, by omega⟩ hE, hu, zaF_1, if_pos (show w = 0 by omega)]; rfl); exact pm_iret rfl rfl ⟨hTc10, by rw [zo]⟩)
              | (have zo : zaZ (μ1 232 0) (μ1 232 1) (μ1 232 2) (μ1 232 3) w = (μc10 205 50) := (by rw [zaZ_e ⟨by omega, by omega⟩ hE, hu, zaF_1, if_neg (show ¬ w = 0 by omega), if_pos (show w = 2 by omega), if_pos hM]); exact pm_iret rfl rfl ⟨hTc10, by rw [zo]⟩)
              | (have zo : zaZ (μ1 232 0) (μ1 232 1) (μ1 232 2) (μ1 232 3) w = (μc10 205 50) := (by rw [zaZ_e ⟨by omega, by omega⟩ hE, hu, zaF_1, if_neg (show ¬ w = 0 by omega), if_pos (show w = 2 by omega), if_neg hM]); exact pm_iret rfl rfl ⟨hTc10, by rw [zo]⟩)
              | (have zo : zaZ (μ1 232 0) (μ1 232 1) (μ1 232 2) (μ1 232 3) w = (μc10 205 50) := (by rw [zaZ_e ⟨by omega, by omega⟩ hE, hd, zaF_1b, if_neg (show ¬ w = 0 by omega), if_neg (show ¬ w = 2 by omega)]); exact pm_iret rfl rfl ⟨hTc10, by rw [zo]⟩)
              | (have zo : zaZ (μ1 232 0) (μ1 232 1) (μ1 232 2) (μ1 232 3) w = (μc10 205 50) := (by rw [zaZ_n ⟨by omega, by omega⟩ hN, hd, if_pos (show w < 2 by omega), if_pos (show w = 1 ∨ w = 3 by omega)]); exact pm_iret rfl rfl ⟨hTc10, by rw [zo]⟩)
              | (have zo : zaZ (μ1 232 0) (μ1 232 1) (μ1 232 2) (μ1 232 3) w = (μc10 205 50) := (by rw [zaZ_n ⟨by omega, by omega⟩ hN, hu, if_pos (show w < 2 by omega), if_neg (show ¬ (w = 1 ∨ w = 3) by omega)]); exact pm_iret rfl rfl ⟨hTc10, by rw [zo]⟩)
              | (have zo : zaZ (μ1 232 0) (μ1 232 1) (μ1 232 2) (μ1 232 3) w = (μc10 205 50) := (by rw [zaZ_n ⟨by omega, by omega⟩ hN, hd, if_neg (show ¬ w < 2 by omega), if_pos (show w = 1 ∨ w = 3 by omega)]); exact pm_iret rfl rfl ⟨hTc10, by rw [zo]⟩)
              | (have zo : zaZ (μ1 232 0) (μ1 232 1) (μ1 232 2) (μ1 232 3) w = (μc10 205 50) := (by rw [zaZ_n ⟨by omega, by omega⟩ hN, hu, if_neg (show ¬ w < 2 by omega), if_neg (show ¬ (w = 1 ∨ w = 3) by omega)]); exact pm_iret rfl rfl ⟨hTc10, by rw [zo]⟩)
            · have h7 : Int.tmod w 2 = (0 : Int) := h7
              have f12 := zT_get hTc10 zs205_49 (i := 49) (by omega) (by omega)
              refine pm_blk hK zmm175 [] 3 194 [(2, 205), (0, w), (0, μ1 232 0), (0, μ1 232 1), (0, μ1 232 2), (0, μ1 232 3), (0, max (min (μ1 232 0) (μ1 232 1)) (min (μ1 232 2) (μ1 232 3))), (0, min (max (μ1 232 0) (μ1 232 2)) (max (μ1 232 1) (μ1 232 3))), (0, 0)] [(0, μc10 205 49)] μc10 [] rfl trivial ?_
              rw [← b0]
              first
              | (have zo : zaZ (μ1 232 0) (μ1 232 1) (μ1 232 2) (μ1 232 3) w = (μc10 205 49) := (by rw [zaZ_e ⟨by omega, by omega⟩ hE, hu, zaF_1, if_pos (show w = 0 by omega)]; rfl); exact pm_iret rfl rfl ⟨hTc10, by rw [zo]⟩)
              | (have zo : zaZ (μ1 232 0) (μ1 232 1) (μ1 232 2) (μ1 232 3) w = (μc10 205 49) := (by rw [zaZ_e ⟨by omega, by omega⟩ hE, hu, zaF_1, if_neg (show ¬ w = 0 by omega), if_pos (show w = 2 by omega), if_pos hM]); exact pm_iret rfl rfl ⟨hTc10, by rw [zo]⟩)
              | (have zo : zaZ (μ1 232 0) (μ1 232 1) (μ1 232 2) (μ1 232 3) w = (μc10 205 49) := (by rw [zaZ_e ⟨by omega, by omega⟩ hE, hu, zaF_1, if_neg (show ¬ w = 0 by omega), if_pos (show w = 2 by omega), if_neg hM]); exact pm_iret rfl rfl ⟨hTc10, by rw [zo]⟩)
              | (have zo : zaZ (μ1 232 0) (μ1 232 1) (μ1 232 2) (μ1 232 3) w = (μc10 205 49) := (by rw [zaZ_e ⟨by omega, by omega⟩ hE, hd, zaF_1b, if_neg (show ¬ w = 0 by omega), if_neg (show ¬ w = 2 by omega)]); exact pm_iret rfl rfl ⟨hTc10, by rw [zo]⟩)
              | (have zo : zaZ (μ1 232 0) (μ1 232 1) (μ1 232 2) (μ1 232 3) w = (μc10 205 49) := (by rw [zaZ_n ⟨by omega, by omega⟩ hN, hd, if_pos (show w < 2 by omega), if_pos (show w = 1 ∨ w = 3 by omega)]); exact pm_iret rfl rfl ⟨hTc10, by rw [zo]⟩)
              | (have zo : zaZ (μ1 232 0) (μ1 232 1) (μ1 232 2) (μ1 232 3) w = (μc10 205 49) := (by rw [zaZ_n ⟨by omega, by omega⟩ hN, hu, if_pos (show w < 2 by omega), if_neg (show ¬ (w = 1 ∨ w = 3) by omega)]); exact pm_iret rfl rfl ⟨hTc10, by rw [zo]⟩)
              | (have zo : zaZ (μ1 232 0) (μ1 232 1) (μ1 232 2) (μ1 232 3) w = (μc10 205 49) := (by rw [zaZ_n ⟨by omega, by omega⟩ hN, hd, if_neg (show ¬ w < 2 by omega), if_pos (show w = 1 ∨ w = 3 by omega)]); exact pm_iret rfl rfl ⟨hTc10, by rw [zo]⟩)
              | (have zo : zaZ (μ1 232 0) (μ1 232 1) (μ1 232 2) (μ1 232 3) w = (μc10 205 49) := (by rw [zaZ_n ⟨by omega, by omega⟩ hN, hu, if_neg (show ¬ w < 2 by omega), if_neg (show ¬ (w = 1 ∨ w = 3) by omega)]); exact pm_iret rfl rfl ⟨hTc10, by rw [zo]⟩)
          · have h6 : min (μ1 232 0) (μ1 232 1) = max (min (μ1 232 0) (μ1 232 1)) (min (μ1 232 2) (μ1 232 3)) := h6
            have hM : min (μ1 232 0) (μ1 232 1) = zaL (μ1 232 0) (μ1 232 1) (μ1 232 2) (μ1 232 3) := h6
            refine pm_blk hK zmm175 [] 3 136 [(2, 205), (0, w), (0, μ1 232 0), (0, μ1 232 1), (0, μ1 232 2), (0, μ1 232 3), (0, max (min (μ1 232 0) (μ1 232 1)) (min (μ1 232 2) (μ1 232 3))), (0, min (max (μ1 232 0) (μ1 232 2)) (max (μ1 232 1) (μ1 232 3))), (0, 0)] [(0, 1), (0, 1), (2, 205)] μ1 [] rfl trivial ?_
            refine pm_call hK zmm175 (451, 0, 177, 2) zM177 (1, 25) [(2, 205), (0, 1), (0, 1)] [] rfl rfl rfl rfl ⟨by omega, by rw [zn177]; omega⟩ (zh_isFraz hK (a := 1) (b := 1) ⟨by omega, by omega⟩ ⟨by omega, by omega⟩ (by omega) hTμ1 hb205 ⟨Nat.le_refl _, Nat.le_refl _⟩) (fun st11 μc11 hp11 => ?_)
            obtain ⟨rfl, hTc11, hu, hd⟩ := hp11
            refine pm_blk hK zmm175 [] 1 177 [(2, 205), (0, w), (0, μ1 232 0), (0, μ1 232 1), (0, μ1 232 2), (0, μ1 232 3), (0, max (min (μ1 232 0) (μ1 232 1)) (min (μ1 232 2) (μ1 232 3))), (0, min (max (μ1 232 0) (μ1 232 2)) (max (μ1 232 1) (μ1 232 3))), (0, 0)] [] μc11 [] rfl trivial ?_
            have hm : Int.tmod w 2 = w % 2 := Int.tmod_eq_emod_of_nonneg (by omega)
            refine pm_blk hK zmm175 [] 3 180 [(2, 205), (0, w), (0, μ1 232 0), (0, μ1 232 1), (0, μ1 232 2), (0, μ1 232 3), (0, max (min (μ1 232 0) (μ1 232 1)) (min (μ1 232 2) (μ1 232 3))), (0, min (max (μ1 232 0) (μ1 232 2)) (max (μ1 232 1) (μ1 232 3))), (0, 0)] [(0, Int.tmod w 2)] μc11 [2 ≠ 0] rfl ⟨by omega, trivial⟩ ?_
            refine pm_if hK zmm175 .ne 10 190 rfl rfl (fun h8 => ?_) (fun h8 => ?_)
            · have h8 : Int.tmod w 2 ≠ (0 : Int) := h8
              have f13 := zT_get hTc11 zs205_50 (i := 50) (by omega) (by omega)
              refine pm_blk hK zmm175 [] 2 194 [(2, 205), (0, w), (0, μ1 232 0), (0, μ1 232 1), (0, μ1 232 2), (0, μ1 232 3), (0, max (min (μ1 232 0) (μ1 232 1)) (min (μ1 232 2) (μ1 232 3))), (0, min (max (μ1 232 0) (μ1 232 2)) (max (μ1 232 1) (μ1 232 3))), (0, 0)] [(0, μc11 205 50)] μc11 [] rfl trivial ?_
              rw [← b0]
              first
              | (have zo : zaZ (μ1 232 0) (μ1 232 1) (μ1 232 2) (μ1 232 3) w = (μc11 205 50) := (by rw [zaZ_e ⟨by omega, by omega⟩ hE, hu, zaF_1, if_pos (show w = 0 by omega)]; rfl); exact pm_iret rfl rfl ⟨hTc11, by rw [zo]⟩)
              | (have zo : zaZ (μ1 232 0) (μ1 232 1) (μ1 232 2) (μ1 232 3) w = (μc11 205 50) := (by rw [zaZ_e ⟨by omega, by omega⟩ hE, hu, zaF_1, if_neg (show ¬ w = 0 by omega), if_pos (show w = 2 by omega), if_pos hM]); exact pm_iret rfl rfl ⟨hTc11, by rw [zo]⟩)
              | (have zo : zaZ (μ1 232 0) (μ1 232 1) (μ1 232 2) (μ1 232 3) w = (μc11 205 50) := (by rw [zaZ_e ⟨by omega, by omega⟩ hE, hu, zaF_1, if_neg (show ¬ w = 0 by omega), if_pos (show w = 2 by omega), if_neg hM]); exact pm_iret rfl rfl ⟨hTc11, by rw [zo]⟩)
              | (have zo : zaZ (μ1 232 0) (μ1 232 1) (μ1 232 2) (μ1 232 3) w = (μc11 205 50) := (by rw [zaZ_e ⟨by omega, by omega⟩ hE, hd, zaF_1b, if_neg (show ¬ w = 0 by omega), if_neg (show ¬ w = 2 by omega)]); exact pm_iret rfl rfl ⟨hTc11, by rw [zo]⟩)
              | (have zo : zaZ (μ1 232 0) (μ1 232 1) (μ1 232 2) (μ1 232 3) w = (μc11 205 50) := (by rw [zaZ_n ⟨by omega, by omega⟩ hN, hd, if_pos (show w < 2 by omega), if_pos (show w = 1 ∨ w = 3 by omega)]); exact pm_iret rfl rfl ⟨hTc11, by rw [zo]⟩)
              | (have zo : zaZ (μ1 232 0) (μ1 232 1) (μ1 232 2) (μ1 232 3) w = (μc11 205 50) := (by rw [zaZ_n ⟨by omega, by omega⟩ hN, hu, if_pos (show w < 2 by omega), if_neg (show ¬ (w = 1 ∨ w = 3) by omega)]); exact pm_iret rfl rfl ⟨hTc11, by rw [zo]⟩)
              | (have zo : zaZ (μ1 232 0) (μ1 232 1) (μ1 232 2) (μ1 232 3) w = (μc11 205 50) := (by rw [zaZ_n ⟨by omega, by omega⟩ hN, hd, if_neg (show ¬ w < 2 by omega), if_pos (show w = 1 ∨ w = 3 by omega)]); exact pm_iret rfl rfl ⟨hTc11, by rw [zo]⟩)
              | (have zo : zaZ (μ1 232 0) (μ1 232 1) (μ1 232 2) (μ1 232 3) w = (μc11 205 50) := (by rw [zaZ_n ⟨by omega, by omega⟩ hN, hu, if_neg (show ¬ w < 2 by omega), if_neg (show ¬ (w = 1 ∨ w = 3) by omega)]); exact pm_iret rfl rfl ⟨hTc11, by rw [zo]⟩)
            · have h8 : Int.tmod w 2 = (0 : Int) := h8
              have f14 := zT_get hTc11 zs205_49 (i := 49) (by omega) (by omega)
              refine pm_blk hK zmm175 [] 3 194 [(2, 205), (0, w), (0, μ1 232 0), (0, μ1 232 1), (0, μ1 232 2), (0, μ1 232 3), (0, max (min (μ1 232 0) (μ1 232 1)) (min (μ1 232 2) (μ1 232 3))), (0, min (max (μ1 232 0) (μ1 232 2)) (max (μ1 232 1) (μ1 232 3))), (0, 0)] [(0, μc11 205 49)] μc11 [] rfl trivial ?_
              rw [← b0]
              first
              | (have zo : zaZ (μ1 232 0) (μ1 232 1) (μ1 232 2) (μ1 232 3) w = (μc11 205 49) := (by rw [zaZ_e ⟨by omega, by omega⟩ hE, hu, zaF_1, if_pos (show w = 0 by omega)]; rfl); exact pm_iret rfl rfl ⟨hTc11, by rw [zo]⟩)
              | (have zo : zaZ (μ1 232 0) (μ1 232 1) (μ1 232 2) (μ1 232 3) w = (μc11 205 49) := (by rw [zaZ_e ⟨by omega, by omega⟩ hE, hu, zaF_1, if_neg (show ¬ w = 0 by omega), if_pos (show w = 2 by omega), if_pos hM]); exact pm_iret rfl rfl ⟨hTc11, by rw [zo]⟩)
              | (have zo : zaZ (μ1 232 0) (μ1 232 1) (μ1 232 2) (μ1 232 3) w = (μc11 205 49) := (by rw [zaZ_e ⟨by omega, by omega⟩ hE, hu, zaF_1, if_neg (show ¬ w = 0 by omega), if_pos (show w = 2 by omega), if_neg hM]); exact pm_iret rfl rfl ⟨hTc11, by rw [zo]⟩)
              | (have zo : zaZ (μ1 232 0) (μ1 232 1) (μ1 232 2) (μ1 232 3) w = (μc11 205 49) := (by rw [zaZ_e ⟨by omega, by omega⟩ hE, hd, zaF_1b, if_neg (show ¬ w = 0 by omega), if_neg (show ¬ w = 2 by omega)]); exact pm_iret rfl rfl ⟨hTc11, by rw [zo]⟩)
              | (have zo : zaZ (μ1 232 0) (μ1 232 1) (μ1 232 2) (μ1 232 3) w = (μc11 205 49) := (by rw [zaZ_n ⟨by omega, by omega⟩ hN, hd, if_pos (show w < 2 by omega), if_pos (show w = 1 ∨ w = 3 by omega)]); exact pm_iret rfl rfl ⟨hTc11, by rw [zo]⟩)
              | (have zo : zaZ (μ1 232 0) (μ1 232 1) (μ1 232 2) (μ1 232 3) w = (μc11 205 49) := (by rw [zaZ_n ⟨by omega, by omega⟩ hN, hu, if_pos (show w < 2 by omega), if_neg (show ¬ (w = 1 ∨ w = 3) by omega)]); exact pm_iret rfl rfl ⟨hTc11, by rw [zo]⟩)
              | (have zo : zaZ (μ1 232 0) (μ1 232 1) (μ1 232 2) (μ1 232 3) w = (μc11 205 49) := (by rw [zaZ_n ⟨by omega, by omega⟩ hN, hd, if_neg (show ¬ w < 2 by omega), if_pos (show w = 1 ∨ w = 3 by omega)]); exact pm_iret rfl rfl ⟨hTc11, by rw [zo]⟩)
              | (have zo : zaZ (μ1 232 0) (μ1 232 1) (μ1 232 2) (μ1 232 3) w = (μc11 205 49) := (by rw [zaZ_n ⟨by omega, by omega⟩ hN, hu, if_neg (show ¬ w < 2 by omega), if_neg (show ¬ (w = 1 ∨ w = 3) by omega)]); exact pm_iret rfl rfl ⟨hTc11, by rw [zo]⟩)
        · have h5 : (0 : Int) ≠ (0 : Int) := h5
          exact absurd h5 (by decide)
    · have h1 : w < (2 : Int) := h1
      refine pm_blk hK zmm175 [] 5 105 [(2, 205), (0, w), (0, μ1 232 0), (0, μ1 232 1), (0, μ1 232 2), (0, μ1 232 3), (0, max (min (μ1 232 0) (μ1 232 1)) (min (μ1 232 2) (μ1 232 3))), (0, min (max (μ1 232 0) (μ1 232 2)) (max (μ1 232 1) (μ1 232 3))), (0, 1)] [(0, min (max (μ1 232 0) (μ1 232 2)) (max (μ1 232 1) (μ1 232 3))), (0, max (min (μ1 232 0) (μ1 232 1)) (min (μ1 232 2) (μ1 232 3)))] μ1 [] rfl trivial ?_
      refine pm_icmp hK zmm175 .ne 37 142 rfl rfl (fun h9 => ?_) (fun h9 => ?_)
      · have h9 : max (min (μ1 232 0) (μ1 232 1)) (min (μ1 232 2) (μ1 232 3)) ≠ min (max (μ1 232 0) (μ1 232 2)) (max (μ1 232 1) (μ1 232 3)) := h9
        have hN : zaL (μ1 232 0) (μ1 232 1) (μ1 232 2) (μ1 232 3) ≠ zaH (μ1 232 0) (μ1 232 1) (μ1 232 2) (μ1 232 3) := h9
        have hD := zaD hN
        refine pm_blk hK zmm175 [] 2 145 [(2, 205), (0, w), (0, μ1 232 0), (0, μ1 232 1), (0, μ1 232 2), (0, μ1 232 3), (0, max (min (μ1 232 0) (μ1 232 1)) (min (μ1 232 2) (μ1 232 3))), (0, min (max (μ1 232 0) (μ1 232 2)) (max (μ1 232 1) (μ1 232 3))), (0, 1)] [(0, 1), (2, 205)] μ1 [] rfl trivial ?_
        refine pm_if hK zmm175 .eq 15 160 rfl rfl (fun h10 => ?_) (fun h10 => ?_)
        · have h10 : (1 : Int) = (0 : Int) := h10
          exact absurd h10 (by decide)
        · have h10 : (1 : Int) ≠ (0 : Int) := h10
          have z1 := zmul99 (a := (μ1 232 0)) (b := (μ1 232 3)) (by omega) (by omega)
          have z2 := zmul99 (a := (μ1 232 1)) (b := (μ1 232 2)) (by omega) (by omega)
          refine pm_blk hK zmm175 [] 15 174 [(2, 205), (0, w), (0, μ1 232 0), (0, μ1 232 1), (0, μ1 232 2), (0, μ1 232 3), (0, max (min (μ1 232 0) (μ1 232 1)) (min (μ1 232 2) (μ1 232 3))), (0, min (max (μ1 232 0) (μ1 232 2)) (max (μ1 232 1) (μ1 232 3))), (0, 1)] [(0, (((μ1 232 0) + (μ1 232 3)) - (μ1 232 1)) - (μ1 232 2)), (0, ((μ1 232 0) * (μ1 232 3)) - ((μ1 232 1) * (μ1 232 2))), (2, 205)] μ1 [pm_in ((μ1 232 0) * (μ1 232 3)), pm_in ((μ1 232 1) * (μ1 232 2)), pm_in (((μ1 232 0) * (μ1 232 3)) - ((μ1 232 1) * (μ1 232 2))), pm_in ((μ1 232 0) + (μ1 232 3)), pm_in (((μ1 232 0) + (μ1 232 3)) - (μ1 232 1)), pm_in ((((μ1 232 0) + (μ1 232 3)) - (μ1 232 1)) - (μ1 232 2))] rfl ⟨pm_in_mk (by omega) (by omega), pm_in_mk (by omega) (by omega), pm_in_mk (by omega) (by omega), pm_in_mk (by omega) (by omega), pm_in_mk (by omega) (by omega), pm_in_mk (by omega) (by omega), trivial⟩ ?_
          refine pm_call hK zmm175 (451, 0, 177, 2) zM177 (1, 25) [(2, 205), (0, ((μ1 232 0) * (μ1 232 3)) - ((μ1 232 1) * (μ1 232 2))), (0, (((μ1 232 0) + (μ1 232 3)) - (μ1 232 1)) - (μ1 232 2))] [] rfl rfl rfl rfl ⟨by omega, by rw [zn177]; omega⟩ (zh_isFraz hK (a := (((μ1 232 0) * (μ1 232 3)) - ((μ1 232 1) * (μ1 232 2)))) (b := ((((μ1 232 0) + (μ1 232 3)) - (μ1 232 1)) - (μ1 232 2))) ⟨by omega, by omega⟩ ⟨by omega, by omega⟩ (by omega) hTμ1 hb205 ⟨Nat.le_refl _, Nat.le_refl _⟩) (fun st12 μc12 hp12 => ?_)
          obtain ⟨rfl, hTc12, hu, hd⟩ := hp12
          have hm : Int.tmod w 2 = w % 2 := Int.tmod_eq_emod_of_nonneg (by omega)
          refine pm_blk hK zmm175 [] 3 180 [(2, 205), (0, w), (0, μ1 232 0), (0, μ1 232 1), (0, μ1 232 2), (0, μ1 232 3), (0, max (min (μ1 232 0) (μ1 232 1)) (min (μ1 232 2) (μ1 232 3))), (0, min (max (μ1 232 0) (μ1 232 2)) (max (μ1 232 1) (μ1 232 3))), (0, 1)] [(0, Int.tmod w 2)] μc12 [2 ≠ 0] rfl ⟨by omega, trivial⟩ ?_
          refine pm_if hK zmm175 .ne 10 190 rfl rfl (fun h11 => ?_) (fun h11 => ?_)
          · have h11 : Int.tmod w 2 ≠ (0 : Int) := h11
            have f15 := zT_get hTc12 zs205_50 (i := 50) (by omega) (by omega)
            refine pm_blk hK zmm175 [] 2 194 [(2, 205), (0, w), (0, μ1 232 0), (0, μ1 232 1), (0, μ1 232 2), (0, μ1 232 3), (0, max (min (μ1 232 0) (μ1 232 1)) (min (μ1 232 2) (μ1 232 3))), (0, min (max (μ1 232 0) (μ1 232 2)) (max (μ1 232 1) (μ1 232 3))), (0, 1)] [(0, μc12 205 50)] μc12 [] rfl trivial ?_
            rw [← b0]
            first
            | (have zo : zaZ (μ1 232 0) (μ1 232 1) (μ1 232 2) (μ1 232 3) w = (μc12 205 50) := (by rw [zaZ_e ⟨by omega, by omega⟩ hE, hu, zaF_1, if_pos (show w = 0 by omega)]; rfl); exact pm_iret rfl rfl ⟨hTc12, by rw [zo]⟩)
            | (have zo : zaZ (μ1 232 0) (μ1 232 1) (μ1 232 2) (μ1 232 3) w = (μc12 205 50) := (by rw [zaZ_e ⟨by omega, by omega⟩ hE, hu, zaF_1, if_neg (show ¬ w = 0 by omega), if_pos (show w = 2 by omega), if_pos hM]); exact pm_iret rfl rfl ⟨hTc12, by rw [zo]⟩)
            | (have zo : zaZ (μ1 232 0) (μ1 232 1) (μ1 232 2) (μ1 232 3) w = (μc12 205 50) := (by rw [zaZ_e ⟨by omega, by omega⟩ hE, hu, zaF_1, if_neg (show ¬ w = 0 by omega), if_pos (show w = 2 by omega), if_neg hM]); exact pm_iret rfl rfl ⟨hTc12, by rw [zo]⟩)
            | (have zo : zaZ (μ1 232 0) (μ1 232 1) (μ1 232 2) (μ1 232 3) w = (μc12 205 50) := (by rw [zaZ_e ⟨by omega, by omega⟩ hE, hd, zaF_1b, if_neg (show ¬ w = 0 by omega), if_neg (show ¬ w = 2 by omega)]); exact pm_iret rfl rfl ⟨hTc12, by rw [zo]⟩)
            | (have zo : zaZ (μ1 232 0) (μ1 232 1) (μ1 232 2) (μ1 232 3) w = (μc12 205 50) := (by rw [zaZ_n ⟨by omega, by omega⟩ hN, hd, if_pos (show w < 2 by omega), if_pos (show w = 1 ∨ w = 3 by omega)]); exact pm_iret rfl rfl ⟨hTc12, by rw [zo]⟩)
            | (have zo : zaZ (μ1 232 0) (μ1 232 1) (μ1 232 2) (μ1 232 3) w = (μc12 205 50) := (by rw [zaZ_n ⟨by omega, by omega⟩ hN, hu, if_pos (show w < 2 by omega), if_neg (show ¬ (w = 1 ∨ w = 3) by omega)]); exact pm_iret rfl rfl ⟨hTc12, by rw [zo]⟩)
            | (have zo : zaZ (μ1 232 0) (μ1 232 1) (μ1 232 2) (μ1 232 3) w = (μc12 205 50) := (by rw [zaZ_n ⟨by omega, by omega⟩ hN, hd, if_neg (show ¬ w < 2 by omega), if_pos (show w = 1 ∨ w = 3 by omega)]); exact pm_iret rfl rfl ⟨hTc12, by rw [zo]⟩)
            | (have zo : zaZ (μ1 232 0) (μ1 232 1) (μ1 232 2) (μ1 232 3) w = (μc12 205 50) := (by rw [zaZ_n ⟨by omega, by omega⟩ hN, hu, if_neg (show ¬ w < 2 by omega), if_neg (show ¬ (w = 1 ∨ w = 3) by omega)]); exact pm_iret rfl rfl ⟨hTc12, by rw [zo]⟩)
          · have h11 : Int.tmod w 2 = (0 : Int) := h11
            have f16 := zT_get hTc12 zs205_49 (i := 49) (by omega) (by omega)
            refine pm_blk hK zmm175 [] 3 194 [(2, 205), (0, w), (0, μ1 232 0), (0, μ1 232 1), (0, μ1 232 2), (0, μ1 232 3), (0, max (min (μ1 232 0) (μ1 232 1)) (min (μ1 232 2) (μ1 232 3))), (0, min (max (μ1 232 0) (μ1 232 2)) (max (μ1 232 1) (μ1 232 3))), (0, 1)] [(0, μc12 205 49)] μc12 [] rfl trivial ?_
            rw [← b0]
            first
            | (have zo : zaZ (μ1 232 0) (μ1 232 1) (μ1 232 2) (μ1 232 3) w = (μc12 205 49) := (by rw [zaZ_e ⟨by omega, by omega⟩ hE, hu, zaF_1, if_pos (show w = 0 by omega)]; rfl); exact pm_iret rfl rfl ⟨hTc12, by rw [zo]⟩)
            | (have zo : zaZ (μ1 232 0) (μ1 232 1) (μ1 232 2) (μ1 232 3) w = (μc12 205 49) := (by rw [zaZ_e ⟨by omega, by omega⟩ hE, hu, zaF_1, if_neg (show ¬ w = 0 by omega), if_pos (show w = 2 by omega), if_pos hM]); exact pm_iret rfl rfl ⟨hTc12, by rw [zo]⟩)
            | (have zo : zaZ (μ1 232 0) (μ1 232 1) (μ1 232 2) (μ1 232 3) w = (μc12 205 49) := (by rw [zaZ_e ⟨by omega, by omega⟩ hE, hu, zaF_1, if_neg (show ¬ w = 0 by omega), if_pos (show w = 2 by omega), if_neg hM]); exact pm_iret rfl rfl ⟨hTc12, by rw [zo]⟩)
            | (have zo : zaZ (μ1 232 0) (μ1 232 1) (μ1 232 2) (μ1 232 3) w = (μc12 205 49) := (by rw [zaZ_e ⟨by omega, by omega⟩ hE, hd, zaF_1b, if_neg (show ¬ w = 0 by omega), if_neg (show ¬ w = 2 by omega)]); exact pm_iret rfl rfl ⟨hTc12, by rw [zo]⟩)
            | (have zo : zaZ (μ1 232 0) (μ1 232 1) (μ1 232 2) (μ1 232 3) w = (μc12 205 49) := (by rw [zaZ_n ⟨by omega, by omega⟩ hN, hd, if_pos (show w < 2 by omega), if_pos (show w = 1 ∨ w = 3 by omega)]); exact pm_iret rfl rfl ⟨hTc12, by rw [zo]⟩)
            | (have zo : zaZ (μ1 232 0) (μ1 232 1) (μ1 232 2) (μ1 232 3) w = (μc12 205 49) := (by rw [zaZ_n ⟨by omega, by omega⟩ hN, hu, if_pos (show w < 2 by omega), if_neg (show ¬ (w = 1 ∨ w = 3) by omega)]); exact pm_iret rfl rfl ⟨hTc12, by rw [zo]⟩)
            | (have zo : zaZ (μ1 232 0) (μ1 232 1) (μ1 232 2) (μ1 232 3) w = (μc12 205 49) := (by rw [zaZ_n ⟨by omega, by omega⟩ hN, hd, if_neg (show ¬ w < 2 by omega), if_pos (show w = 1 ∨ w = 3 by omega)]); exact pm_iret rfl rfl ⟨hTc12, by rw [zo]⟩)
            | (have zo : zaZ (μ1 232 0) (μ1 232 1) (μ1 232 2) (μ1 232 3) w = (μc12 205 49) := (by rw [zaZ_n ⟨by omega, by omega⟩ hN, hu, if_neg (show ¬ w < 2 by omega), if_neg (show ¬ (w = 1 ∨ w = 3) by omega)]); exact pm_iret rfl rfl ⟨hTc12, by rw [zo]⟩)
      · have h9 : max (min (μ1 232 0) (μ1 232 1)) (min (μ1 232 2) (μ1 232 3)) = min (max (μ1 232 0) (μ1 232 2)) (max (μ1 232 1) (μ1 232 3)) := h9
        have hE : zaL (μ1 232 0) (μ1 232 1) (μ1 232 2) (μ1 232 3) = zaH (μ1 232 0) (μ1 232 1) (μ1 232 2) (μ1 232 3) := h9
        refine pm_blk hK zmm175 [] 2 111 [(2, 205), (0, w), (0, μ1 232 0), (0, μ1 232 1), (0, μ1 232 2), (0, μ1 232 3), (0, max (min (μ1 232 0) (μ1 232 1)) (min (μ1 232 2) (μ1 232 3))), (0, min (max (μ1 232 0) (μ1 232 2)) (max (μ1 232 1) (μ1 232 3))), (0, 1)] [(0, 1), (2, 205)] μ1 [] rfl trivial ?_
        refine pm_if hK zmm175 .eq 8 119 rfl rfl (fun h12 => ?_) (fun h12 => ?_)
        · have h12 : (1 : Int) = (0 : Int) := h12
          exact absurd h12 (by decide)
        · have h12 : (1 : Int) ≠ (0 : Int) := h12
          refine pm_blk hK zmm175 [] 3 136 [(2, 205), (0, w), (0, μ1 232 0), (0, μ1 232 1), (0, μ1 232 2), (0, μ1 232 3), (0, max (min (μ1 232 0) (μ1 232 1)) (min (μ1 232 2) (μ1 232 3))), (0, min (max (μ1 232 0) (μ1 232 2)) (max (μ1 232 1) (μ1 232 3))), (0, 1)] [(0, 1), (0, max (min (μ1 232 0) (μ1 232 1)) (min (μ1 232 2) (μ1 232 3))), (2, 205)] μ1 [] rfl trivial ?_
          refine pm_call hK zmm175 (451, 0, 177, 2) zM177 (1, 25) [(2, 205), (0, max (min (μ1 232 0) (μ1 232 1)) (min (μ1 232 2) (μ1 232 3))), (0, 1)] [] rfl rfl rfl rfl ⟨by omega, by rw [zn177]; omega⟩ (zh_isFraz hK (a := (max (min (μ1 232 0) (μ1 232 1)) (min (μ1 232 2) (μ1 232 3)))) (b := 1) ⟨by omega, by omega⟩ ⟨by omega, by omega⟩ (by omega) hTμ1 hb205 ⟨Nat.le_refl _, Nat.le_refl _⟩) (fun st13 μc13 hp13 => ?_)
          obtain ⟨rfl, hTc13, hu, hd⟩ := hp13
          refine pm_blk hK zmm175 [] 1 177 [(2, 205), (0, w), (0, μ1 232 0), (0, μ1 232 1), (0, μ1 232 2), (0, μ1 232 3), (0, max (min (μ1 232 0) (μ1 232 1)) (min (μ1 232 2) (μ1 232 3))), (0, min (max (μ1 232 0) (μ1 232 2)) (max (μ1 232 1) (μ1 232 3))), (0, 1)] [] μc13 [] rfl trivial ?_
          have hm : Int.tmod w 2 = w % 2 := Int.tmod_eq_emod_of_nonneg (by omega)
          refine pm_blk hK zmm175 [] 3 180 [(2, 205), (0, w), (0, μ1 232 0), (0, μ1 232 1), (0, μ1 232 2), (0, μ1 232 3), (0, max (min (μ1 232 0) (μ1 232 1)) (min (μ1 232 2) (μ1 232 3))), (0, min (max (μ1 232 0) (μ1 232 2)) (max (μ1 232 1) (μ1 232 3))), (0, 1)] [(0, Int.tmod w 2)] μc13 [2 ≠ 0] rfl ⟨by omega, trivial⟩ ?_
          refine pm_if hK zmm175 .ne 10 190 rfl rfl (fun h13 => ?_) (fun h13 => ?_)
          · have h13 : Int.tmod w 2 ≠ (0 : Int) := h13
            have f17 := zT_get hTc13 zs205_50 (i := 50) (by omega) (by omega)
            refine pm_blk hK zmm175 [] 2 194 [(2, 205), (0, w), (0, μ1 232 0), (0, μ1 232 1), (0, μ1 232 2), (0, μ1 232 3), (0, max (min (μ1 232 0) (μ1 232 1)) (min (μ1 232 2) (μ1 232 3))), (0, min (max (μ1 232 0) (μ1 232 2)) (max (μ1 232 1) (μ1 232 3))), (0, 1)] [(0, μc13 205 50)] μc13 [] rfl trivial ?_
            rw [← b0]
            first
            | (have zo : zaZ (μ1 232 0) (μ1 232 1) (μ1 232 2) (μ1 232 3) w = (μc13 205 50) := (by rw [zaZ_e ⟨by omega, by omega⟩ hE, hu, zaF_1, if_pos (show w = 0 by omega)]; rfl); exact pm_iret rfl rfl ⟨hTc13, by rw [zo]⟩)
            | (have zo : zaZ (μ1 232 0) (μ1 232 1) (μ1 232 2) (μ1 232 3) w = (μc13 205 50) := (by rw [zaZ_e ⟨by omega, by omega⟩ hE, hu, zaF_1, if_neg (show ¬ w = 0 by omega), if_pos (show w = 2 by omega), if_pos hM]); exact pm_iret rfl rfl ⟨hTc13, by rw [zo]⟩)
            | (have zo : zaZ (μ1 232 0) (μ1 232 1) (μ1 232 2) (μ1 232 3) w = (μc13 205 50) := (by rw [zaZ_e ⟨by omega, by omega⟩ hE, hu, zaF_1, if_neg (show ¬ w = 0 by omega), if_pos (show w = 2 by omega), if_neg hM]); exact pm_iret rfl rfl ⟨hTc13, by rw [zo]⟩)
            | (have zo : zaZ (μ1 232 0) (μ1 232 1) (μ1 232 2) (μ1 232 3) w = (μc13 205 50) := (by rw [zaZ_e ⟨by omega, by omega⟩ hE, hd, zaF_1b, if_neg (show ¬ w = 0 by omega), if_neg (show ¬ w = 2 by omega)]); exact pm_iret rfl rfl ⟨hTc13, by rw [zo]⟩)
            | (have zo : zaZ (μ1 232 0) (μ1 232 1) (μ1 232 2) (μ1 232 3) w = (μc13 205 50) := (by rw [zaZ_n ⟨by omega, by omega⟩ hN, hd, if_pos (show w < 2 by omega), if_pos (show w = 1 ∨ w = 3 by omega)]); exact pm_iret rfl rfl ⟨hTc13, by rw [zo]⟩)
            | (have zo : zaZ (μ1 232 0) (μ1 232 1) (μ1 232 2) (μ1 232 3) w = (μc13 205 50) := (by rw [zaZ_n ⟨by omega, by omega⟩ hN, hu, if_pos (show w < 2 by omega), if_neg (show ¬ (w = 1 ∨ w = 3) by omega)]); exact pm_iret rfl rfl ⟨hTc13, by rw [zo]⟩)
            | (have zo : zaZ (μ1 232 0) (μ1 232 1) (μ1 232 2) (μ1 232 3) w = (μc13 205 50) := (by rw [zaZ_n ⟨by omega, by omega⟩ hN, hd, if_neg (show ¬ w < 2 by omega), if_pos (show w = 1 ∨ w = 3 by omega)]); exact pm_iret rfl rfl ⟨hTc13, by rw [zo]⟩)
            | (have zo : zaZ (μ1 232 0) (μ1 232 1) (μ1 232 2) (μ1 232 3) w = (μc13 205 50) := (by rw [zaZ_n ⟨by omega, by omega⟩ hN, hu, if_neg (show ¬ w < 2 by omega), if_neg (show ¬ (w = 1 ∨ w = 3) by omega)]); exact pm_iret rfl rfl ⟨hTc13, by rw [zo]⟩)
          · have h13 : Int.tmod w 2 = (0 : Int) := h13
            have f18 := zT_get hTc13 zs205_49 (i := 49) (by omega) (by omega)
            refine pm_blk hK zmm175 [] 3 194 [(2, 205), (0, w), (0, μ1 232 0), (0, μ1 232 1), (0, μ1 232 2), (0, μ1 232 3), (0, max (min (μ1 232 0) (μ1 232 1)) (min (μ1 232 2) (μ1 232 3))), (0, min (max (μ1 232 0) (μ1 232 2)) (max (μ1 232 1) (μ1 232 3))), (0, 1)] [(0, μc13 205 49)] μc13 [] rfl trivial ?_
            rw [← b0]
            first
            | (have zo : zaZ (μ1 232 0) (μ1 232 1) (μ1 232 2) (μ1 232 3) w = (μc13 205 49) := (by rw [zaZ_e ⟨by omega, by omega⟩ hE, hu, zaF_1, if_pos (show w = 0 by omega)]; rfl); exact pm_iret rfl rfl ⟨hTc13, by rw [zo]⟩)
            | (have zo : zaZ (μ1 232 0) (μ1 232 1) (μ1 232 2) (μ1 232 3) w = (μc13 205 49) := (by rw [zaZ_e ⟨by omega, by omega⟩ hE, hu, zaF_1, if_neg (show ¬ w = 0 by omega), if_pos (show w = 2 by omega), if_pos hM]); exact pm_iret rfl rfl ⟨hTc13, by rw [zo]⟩)
            | (have zo : zaZ (μ1 232 0) (μ1 232 1) (μ1 232 2) (μ1 232 3) w = (μc13 205 49) := (by rw [zaZ_e ⟨by omega, by omega⟩ hE, hu, zaF_1, if_neg (show ¬ w = 0 by omega), if_pos (show w = 2 by omega), if_neg hM]); exact pm_iret rfl rfl ⟨hTc13, by rw [zo]⟩)
            | (have zo : zaZ (μ1 232 0) (μ1 232 1) (μ1 232 2) (μ1 232 3) w = (μc13 205 49) := (by rw [zaZ_e ⟨by omega, by omega⟩ hE, hd, zaF_1b, if_neg (show ¬ w = 0 by omega), if_neg (show ¬ w = 2 by omega)]); exact pm_iret rfl rfl ⟨hTc13, by rw [zo]⟩)
            | (have zo : zaZ (μ1 232 0) (μ1 232 1) (μ1 232 2) (μ1 232 3) w = (μc13 205 49) := (by rw [zaZ_n ⟨by omega, by omega⟩ hN, hd, if_pos (show w < 2 by omega), if_pos (show w = 1 ∨ w = 3 by omega)]); exact pm_iret rfl rfl ⟨hTc13, by rw [zo]⟩)
            | (have zo : zaZ (μ1 232 0) (μ1 232 1) (μ1 232 2) (μ1 232 3) w = (μc13 205 49) := (by rw [zaZ_n ⟨by omega, by omega⟩ hN, hu, if_pos (show w < 2 by omega), if_neg (show ¬ (w = 1 ∨ w = 3) by omega)]); exact pm_iret rfl rfl ⟨hTc13, by rw [zo]⟩)
            | (have zo : zaZ (μ1 232 0) (μ1 232 1) (μ1 232 2) (μ1 232 3) w = (μc13 205 49) := (by rw [zaZ_n ⟨by omega, by omega⟩ hN, hd, if_neg (show ¬ w < 2 by omega), if_pos (show w = 1 ∨ w = 3 by omega)]); exact pm_iret rfl rfl ⟨hTc13, by rw [zo]⟩)
            | (have zo : zaZ (μ1 232 0) (μ1 232 1) (μ1 232 2) (μ1 232 3) w = (μc13 205 49) := (by rw [zaZ_n ⟨by omega, by omega⟩ hN, hu, if_neg (show ¬ w < 2 by omega), if_neg (show ¬ (w = 1 ∨ w = 3) by omega)]); exact pm_iret rfl rfl ⟨hTc13, by rw [zo]⟩)
  · have h0 : (if 0 ≤ w ∧ w ≤ 3 then 1 else 0 : Int) = (0 : Int) := h0
    have h0 := zif0 h0
    refine pm_blk hK zmm175 [] 1 18 [(2, 205), (0, w), (9, 0), (9, 0), (9, 0), (9, 0), (9, 0), (9, 0), (9, 0)] [(0, (-10000))] μ1 [] rfl trivial ?_
    have zo : zaZ (μ 232 0) (μ 232 1) (μ 232 2) (μ 232 3) w = ((-10000)) := zaZ_o (by omega)
    exact pm_iret rfl rfl ⟨hTμ1, by rw [zo]⟩
end ZHW
