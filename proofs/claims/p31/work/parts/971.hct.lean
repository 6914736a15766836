/-! contracts of the methods that are walked by hand (printed by wip/p30/mk971.py) -/
theorem pm_as_n {as : List pm_V} (h : pm_as as []) : as = [] := by
  cases as with
  | nil => rfl
  | cons a as => exact h.elim
theorem pm_as_r {as : List pm_V} {r : Nat} {ts : List sx_Ty} (h : pm_as as ((2, (r : Int), 0) :: ts)) : ∃ as2, as = (2, (r : Int)) :: as2 ∧ pm_as as2 ts := by
  cases as with
  | nil => exact h.elim
  | cons a as =>
    obtain ⟨h1, h2, h3, h4⟩ := h
    obtain ⟨a1, a2⟩ := a
    obtain rfl : a1 = 2 := h1
    obtain rfl : a2 = (r : Int) := h3 rfl
    exact ⟨as, rfl, h4⟩
theorem pm_as_i {as : List pm_V} {lo hi : Int} {ts : List sx_Ty} (h : pm_as as ((0, lo, hi) :: ts)) : ∃ x as2, as = (0, x) :: as2 ∧ (lo ≤ x ∧ x ≤ hi) ∧ pm_as as2 ts := by
  cases as with
  | nil => exact h.elim
  | cons a as =>
    obtain ⟨h1, h2, h3, h4⟩ := h
    obtain ⟨a1, a2⟩ := a
    have h1 : a1 = 0 := h1
    subst h1
    exact ⟨a2, as, rfl, h2 rfl, h4⟩
section CT1
variable {D : va_G} {Wm : Nat} {ST : List (String × String × String × Nat)} {b0 : sx_B} {l : Launch} {B0 : Nat → Prop} {Sg : Nat → Option Nat} {M : sx_Me} {bud : sx_Bu} {μ : pm_Mem}
theorem zC_mono {as : List pm_V} {Post Post' : List pm_V → pm_Mem → Prop} (h : zC D Wm ST b0 l Sg M bud as μ Post) (k : ∀ st μ', Post st μ' → Post' st μ') : zC D Wm ST b0 l Sg M bud as μ Post' := pm_then h (fun _ _ _ _ hX => pm_exit ⟨hX.1, k _ _ hX.2⟩)
theorem zTJ_T {μ' : pm_Mem} (hw : sx_Wd zNR zRT2 B0 Sg) (h : zTJ μ') : pm_T zRT2 Sg μ' ∧ zJ μ' := ⟨zTy_T hw h.1, h.2⟩
set_option maxRecDepth 100000 in
theorem zCt316 (hw : sx_Wd zNR zRT2 B0 Sg) (hK : zKK ST) {aW aS : Nat} (hTX : zSTt ST aW aS) : zCK D ST B0 l Sg zC316 := pm_ct hK rfl ⟨rfl, rfl⟩ hw zGm_lt zJ_loc rfl (fun t ht => by cases ht; rfl) (fun as μ has hT hJ => by
  obtain ⟨as1, rfl, ha1⟩ := pm_as_r (r := 88) has
  obtain ⟨x1, as2, rfl, q1, ha2⟩ := pm_as_i ha1
  obtain ⟨x2, as3, rfl, q2, ha3⟩ := pm_as_i ha2
  obtain rfl := pm_as_n ha3
  exact zC_mono (zh_wordKind hK hTX q1 q2 ⟨Nat.le_of_ble_eq_true rfl, Nat.le_of_ble_eq_true rfl⟩) (fun st' μ' h => by obtain ⟨rfl, x, rfl, h1, h2⟩ := h; exact ⟨⟨x, rfl, h1, h2⟩, hT, hJ⟩))
set_option maxRecDepth 100000 in
theorem zCt357 (hw : sx_Wd zNR zRT2 B0 Sg) (hK : zKK ST) : zCK D ST B0 l Sg zC357 := pm_ct hK rfl ⟨rfl, rfl⟩ hw zGm_lt zJ_loc rfl (fun t ht => by cases ht; rfl) (fun as μ has hT hJ => by
  obtain ⟨as1, rfl, ha1⟩ := pm_as_r (r := 202) has
  obtain ⟨as2, rfl, ha2⟩ := pm_as_r (r := 29) ha1
  obtain ⟨x1, as3, rfl, q1, ha3⟩ := pm_as_i ha2
  obtain rfl := pm_as_n ha3
  have q2 := q1
  exact zC_mono (zh_fewestHands hK q2 ⟨zTy_of hw hT, hJ⟩ (by decide +kernel) (by decide +kernel) ⟨Nat.le_of_ble_eq_true rfl, Nat.le_of_ble_eq_true rfl⟩) (fun st' μ' h => by obtain ⟨x, rfl, h1, h3⟩ := h; exact ⟨⟨x, rfl, h1.1, h1.2⟩, zTJ_T hw h3⟩))
set_option maxRecDepth 100000 in
theorem zCt431 (hw : sx_Wd zNR zRT2 B0 Sg) (hK : zKK ST) : zCK D ST B0 l Sg zC431 := pm_ct hK rfl ⟨rfl, rfl⟩ hw zGm_lt zJ_loc rfl (fun t ht => by cases ht) (fun as μ has hT hJ => by
  obtain ⟨as1, rfl, ha1⟩ := pm_as_r (r := 205) has
  obtain rfl := pm_as_n ha1
  exact zC_mono (zh_reads hK ⟨zTy_of hw hT, hJ⟩ (by decide +kernel) ⟨Nat.le_of_ble_eq_true rfl, Nat.le_of_ble_eq_true rfl⟩) (fun st' μ' h => ⟨h.1, zTJ_T hw h.2.1⟩))
set_option maxRecDepth 100000 in
theorem zCt438 (hw : sx_Wd zNR zRT2 B0 Sg) (hK : zKK ST) : zCK D ST B0 l Sg zC438 := pm_ct hK rfl ⟨rfl, rfl⟩ hw zGm_lt zJ_loc rfl (fun t ht => by cases ht; rfl) (fun as μ has hT hJ => by
  obtain ⟨as1, rfl, ha1⟩ := pm_as_r (r := 205) has
  obtain ⟨x1, as2, rfl, q1, ha2⟩ := pm_as_i ha1
  obtain ⟨x2, as3, rfl, q2, ha3⟩ := pm_as_i ha2
  obtain ⟨x3, as4, rfl, q3, ha4⟩ := pm_as_i ha3
  obtain rfl := pm_as_n ha4
  exact zC_mono (zh_lawTells hK (pm_in_mk (by omega) (by omega)) (by omega) ⟨zTy_of hw hT, hJ⟩ (by decide +kernel) ⟨Nat.le_of_ble_eq_true rfl, Nat.le_of_ble_eq_true rfl⟩) (fun st' μ' h => by obtain ⟨x, rfl, h1, h2, h3⟩ := h; exact ⟨⟨x, rfl, by first | exact h1 | (show _ ≤ (1000 : Int); omega), by first | exact h1 | (show _ ≤ (1000 : Int); omega)⟩, zTJ_T hw h3⟩))
set_option maxRecDepth 100000 in
theorem zCt440 (hw : sx_Wd zNR zRT2 B0 Sg) (hK : zKK ST) : zCK D ST B0 l Sg zC440 := pm_ct hK rfl ⟨rfl, rfl⟩ hw zGm_lt zJ_loc rfl (fun t ht => by cases ht) (fun as μ has hT hJ => by
  obtain ⟨as1, rfl, ha1⟩ := pm_as_r (r := 205) has
  obtain rfl := pm_as_n ha1
  exact zC_mono (zh_keepsAhead hK ⟨zTy_of hw hT, hJ⟩ (by decide +kernel) (by decide +kernel) ⟨Nat.le_of_ble_eq_true rfl, Nat.le_of_ble_eq_true rfl⟩) (fun st' μ' h => ⟨h.1, zTJ_T hw h.2⟩))
set_option maxRecDepth 100000 in
theorem zCt444 (hw : sx_Wd zNR zRT2 B0 Sg) (hK : zKK ST) : zCK D ST B0 l Sg zC444 := pm_ct hK rfl ⟨rfl, rfl⟩ hw zGm_lt zJ_loc rfl (fun t ht => by cases ht) (fun as μ has hT hJ => by
  obtain ⟨as1, rfl, ha1⟩ := pm_as_r (r := 205) has
  obtain rfl := pm_as_n ha1
  exact zC_mono (zh_dayBegins hK ⟨zTy_of hw hT, hJ⟩ (by decide +kernel) (by decide +kernel) ⟨Nat.le_of_ble_eq_true rfl, Nat.le_of_ble_eq_true rfl⟩) (fun st' μ' h => ⟨h.1, zTJ_T hw h.2⟩))
set_option maxRecDepth 100000 in
theorem zCt463 (hw : sx_Wd zNR zRT2 B0 Sg) (hK : zKK ST) : zCK D ST B0 l Sg zC463 := pm_ct hK rfl ⟨rfl, rfl⟩ hw zGm_lt zJ_loc rfl (fun t ht => by cases ht; rfl) (fun as μ has hT hJ => by
  obtain ⟨as1, rfl, ha1⟩ := pm_as_r (r := 205) has
  obtain ⟨x1, as2, rfl, q1, ha2⟩ := pm_as_i ha1
  obtain ⟨x2, as3, rfl, q2, ha3⟩ := pm_as_i ha2
  obtain rfl := pm_as_n ha3
  exact zC_mono (zh_pays hK q1 q2 ⟨zTy_of hw hT, hJ⟩ (by decide +kernel) (by decide +kernel) ⟨Nat.le_of_ble_eq_true rfl, Nat.le_of_ble_eq_true rfl⟩) (fun st' μ' h => by obtain ⟨x, rfl, h1, h3⟩ := h; exact ⟨⟨x, rfl, h1.1, h1.2⟩, zTJ_T hw h3⟩))
set_option maxRecDepth 100000 in
theorem zCt465 (hw : sx_Wd zNR zRT2 B0 Sg) (hK : zKK ST) : zCK D ST B0 l Sg zC465 := pm_ct hK rfl ⟨rfl, rfl⟩ hw zGm_lt zJ_loc rfl (fun t ht => by cases ht; rfl) (fun as μ has hT hJ => by
  obtain ⟨as1, rfl, ha1⟩ := pm_as_r (r := 205) has
  obtain ⟨x1, as2, rfl, q1, ha2⟩ := pm_as_i ha1
  obtain rfl := pm_as_n ha2
  exact zC_mono (zh_after hK q1 ⟨zTy_of hw hT, hJ⟩ (by decide +kernel) ⟨Nat.le_of_ble_eq_true rfl, Nat.le_of_ble_eq_true rfl⟩) (fun st' μ' h => by obtain ⟨x, rfl, h1, h3⟩ := h; exact ⟨⟨x, rfl, h1.1, h1.2⟩, zTJ_T hw h3⟩))
set_option maxRecDepth 100000 in
theorem zCt474 (hw : sx_Wd zNR zRT2 B0 Sg) (hK : zKK ST) : zCK D ST B0 l Sg zC474 := pm_ct hK rfl ⟨rfl, rfl⟩ hw zGm_lt zJ_loc rfl (fun t ht => by cases ht; rfl) (fun as μ has hT hJ => by
  obtain ⟨as1, rfl, ha1⟩ := pm_as_r (r := 205) has
  obtain ⟨x1, as2, rfl, q1, ha2⟩ := pm_as_i ha1
  obtain rfl := pm_as_n ha2
  exact zC_mono (zh_areBeside hK q1 ⟨Nat.le_of_ble_eq_true rfl, Nat.le_of_ble_eq_true rfl⟩) (fun st' μ' h => by obtain ⟨rfl, x, rfl, h1, h2⟩ := h; exact ⟨⟨x, rfl, h1, h2⟩, hT, hJ⟩))
set_option maxRecDepth 100000 in
theorem zCt481 (hw : sx_Wd zNR zRT2 B0 Sg) (hK : zKK ST) : zCK D ST B0 l Sg zC481 := pm_ct hK rfl ⟨rfl, rfl⟩ hw zGm_lt zJ_loc rfl (fun t ht => by cases ht) (fun as μ has hT hJ => by
  obtain ⟨as1, rfl, ha1⟩ := pm_as_r (r := 205) has
  obtain ⟨x1, as2, rfl, q1, ha2⟩ := pm_as_i ha1
  obtain rfl := pm_as_n ha2
  exact zC_mono (zh_writesYear hK q1 ⟨zTy_of hw hT, hJ⟩ (by decide +kernel) (by decide +kernel) ⟨Nat.le_of_ble_eq_true rfl, Nat.le_of_ble_eq_true rfl⟩) (fun st' μ' h => ⟨h.1, zTJ_T hw h.2⟩))
set_option maxRecDepth 100000 in
theorem zCt493 (hw : sx_Wd zNR zRT2 B0 Sg) (hK : zKK ST) : zCK D ST B0 l Sg zC493 := pm_ct hK rfl ⟨rfl, rfl⟩ hw zGm_lt zJ_loc rfl (fun t ht => by cases ht; rfl) (fun as μ has hT hJ => by
  obtain ⟨as1, rfl, ha1⟩ := pm_as_r (r := 205) has
  obtain ⟨x1, as2, rfl, q1, ha2⟩ := pm_as_i ha1
  obtain rfl := pm_as_n ha2
  exact zC_mono (zh_image hK q1 ⟨zTy_of hw hT, hJ⟩ (by decide +kernel) (by decide +kernel) (by decide +kernel) (by decide +kernel) (by decide +kernel) (by decide +kernel) (by decide +kernel) (by decide +kernel) (by decide +kernel) (by decide +kernel) (by decide +kernel) (by decide +kernel) (by decide +kernel) (by decide +kernel) (by decide +kernel) (by decide +kernel) (by decide +kernel) (by decide +kernel) (by decide +kernel) (by decide +kernel) (by decide +kernel) (by decide +kernel) (by decide +kernel) ⟨Nat.le_of_ble_eq_true rfl, Nat.le_of_ble_eq_true rfl⟩) (fun st' μ' h => by obtain ⟨x, rfl, h1, h2, h3⟩ := h; exact ⟨⟨x, rfl, by first | exact h1 | exact h2, by first | exact h1 | exact h2⟩, zTJ_T hw h3⟩))
end CT1
