/-! what waits while a condition is read -/
def zPb (p : Int → Int) : Nat → Int
  | 0 => 0
  | n + 1 => zPb p n + (if p n = 10 ∨ p n = 11 then 1 else 0)
def zPo (p : Int → Int) : Nat → Int
  | 0 => 0
  | n + 1 => zPo p n + (if p n = 9 ∨ p n = 12 then 1 else 0)
def zPq (p : Int → Int) : Nat → Int
  | 0 => 0
  | n + 1 => zPq p n + (if p n = 12 then 1 else 0)
def zPk (p : Int → Int) : Nat → Prop
  | 0 => True
  | n + 1 => zPk p n ∧ (p n = 12 ∨ p n = 9 ∨ (p n = 11 ∧ (n = 0 ∨ p ((n : Int) - 1) = 12)) ∨ (p n = 10 ∧ (n = 0 ∨ p ((n : Int) - 1) = 12 ∨ p ((n : Int) - 1) = 11)))
theorem zPb_s (p : Int → Int) (n : Nat) : zPb p (n + 1) = zPb p n + (if p n = 10 ∨ p n = 11 then 1 else 0) := rfl
theorem zPo_s (p : Int → Int) (n : Nat) : zPo p (n + 1) = zPo p n + (if p n = 9 ∨ p n = 12 then 1 else 0) := rfl
theorem zPq_s (p : Int → Int) (n : Nat) : zPq p (n + 1) = zPq p n + (if p n = 12 then 1 else 0) := rfl
theorem zP_congr {p p' : Int → Int} : ∀ {n : Nat}, (∀ i : Int, i < n → p' i = p i) → zPb p' n = zPb p n ∧ zPo p' n = zPo p n ∧ zPq p' n = zPq p n ∧ (zPk p n → zPk p' n)
  | 0, _ => ⟨rfl, rfl, rfl, fun _ => trivial⟩
  | n + 1, h => by
    obtain ⟨a, b, c, d⟩ := zP_congr (p := p) (p' := p') (n := n) (fun i hi => h i (by omega))
    have e := h n (by omega)
    have e1 := h ((n : Int) - 1) (by omega)
    refine ⟨by rw [zPb_s, zPb_s, a, e], by rw [zPo_s, zPo_s, b, e], by rw [zPq_s, zPq_s, c, e], fun hk => ⟨d hk.1, ?_⟩⟩
    rw [e, e1]
    exact hk.2
theorem zP_bd {p : Int → Int} : ∀ {n : Nat}, zPk p n → 0 ≤ zPb p n ∧ 0 ≤ zPq p n ∧ zPq p n ≤ zPo p n ∧ zPb p n + zPo p n = n ∧ zPb p n ≤ 2 * zPq p n + 2 ∧ ((n = 0 ∨ p ((n : Int) - 1) = 12) → zPb p n ≤ 2 * zPq p n) ∧ (p ((n : Int) - 1) = 11 → zPb p n ≤ 2 * zPq p n + 1)
  | 0, _ => by
    refine ⟨?_, ?_, ?_, ?_, ?_, ?_, ?_⟩ <;> (show _ ; simp [zPb, zPo, zPq])
  | n + 1, hk => by
    obtain ⟨hk1, hk2⟩ := hk
    obtain ⟨a, b, c, d, e, f, g⟩ := zP_bd hk1
    rw [zPb_s, zPo_s, zPq_s, show ((n + 1 : Nat) : Int) - 1 = (n : Int) by omega]
    rcases hk2 with h | h | ⟨h, h2⟩ | ⟨h, h2⟩
    · rw [h]
      refine ⟨?_, ?_, ?_, ?_, ?_, ?_, ?_⟩ <;> simp <;> omega
    · rw [h]
      refine ⟨?_, ?_, ?_, ?_, ?_, ?_, ?_⟩ <;> simp <;> omega
    · rw [h]
      have f := f h2
      refine ⟨?_, ?_, ?_, ?_, ?_, ?_, ?_⟩ <;> simp <;> omega
    · rw [h]
      have f : zPb p n ≤ 2 * zPq p n + 1 := by
        rcases h2 with q | q | q
        · have := f (Or.inl q); omega
        · have := f (Or.inr q); omega
        · exact g q
      refine ⟨?_, ?_, ?_, ?_, ?_, ?_, ?_⟩ <;> simp <;> omega
/-- what settling leaves as it was -/
def zFp (μ μ' : pm_Mem) : Prop := (∀ r, r ≠ 205 → r ≠ 218 → r ≠ 219 → μ' r = μ r) ∧ (∀ k, k ≠ 25 → k ≠ 26 → k ≠ 28 → μ' 205 k = μ 205 k)
def zFw (μ μ' : pm_Mem) : Prop := (∀ r, r ≠ 205 → r ≠ 218 → r ≠ 219 → r ≠ 220 → μ' r = μ r) ∧ (∀ k, k ≠ 12 → k ≠ 13 → k ≠ 14 → k ≠ 15 → k ≠ 25 → k ≠ 26 → k ≠ 28 → μ' 205 k = μ 205 k)
theorem zFw_trans {μ μ1 μ2 : pm_Mem} (h : zFw μ μ1) (h' : zFw μ1 μ2) : zFw μ μ2 := ⟨fun r a b c d => by rw [h'.1 r a b c d, h.1 r a b c d], fun k a b c d e f g => by rw [h'.2 k a b c d e f g, h.2 k a b c d e f g]⟩
theorem zFs_w {μ μ' : pm_Mem} (h : zFs μ μ') : zFw μ μ' := ⟨fun r a b c _ => h.1 r a b c, fun k a b c d e _ _ => h.2 k a b c d e⟩
theorem zFp_w {μ μ' : pm_Mem} (h : zFp μ μ') : zFw μ μ' := ⟨fun r a b c _ => h.1 r a b c, fun k _ _ _ _ e f g => h.2 k e f g⟩
def zSt (μ μ' : pm_Mem) (o : Int) (n n' : Nat) : Prop := n' ≤ n ∧ μ' 205 28 = (n' : Int) ∧ μ' 205 25 = μ 205 25 + ((n : Int) - n') ∧ μ' 205 26 = zPo (μ 220) n' ∧ zEm μ μ' (zPb (μ 220) n + 1) (zPb (μ 220) n' + 1) ∧ zFp μ μ' ∧ zPk (μ 220) n' ∧ zPq (μ 220) n' = zPq (μ 220) n ∧ (n' = n ∨ (μ 220 n' = o ∧ zPk (μ 220) (n' + 1)))
theorem zSt_0 {μ : pm_Mem} {o : Int} {n : Nat} (h28 : μ 205 28 = (n : Int)) (h26 : μ 205 26 = zPo (μ 220) n) (hk : zPk (μ 220) n) : zSt μ μ o n n := ⟨Nat.le_refl _, h28, by omega, h26, zEm_same rfl rfl rfl, ⟨fun _ _ _ _ => rfl, fun _ _ _ _ => rfl⟩, hk, rfl, Or.inl rfl⟩
/-- one more settled -/
theorem zSt_step {μ0 μ μ1 μe μ2 : pm_Mem} {o x : Int} {n k : Nat} (h : zSt μ0 μ o n (k + 1)) (ho : o = 9 ∨ o = 10 ∨ o = 11) (hp : μ0 220 k = o) (e1 : μ1 = pm_up μ 205 28 x) (hx : x = (k : Int)) (he : zE1 μ1 μe o 0) (h2 : (o ≠ 9 ∧ μ2 = μe) ∨ (o = 9 ∧ μ2 = pm_up μe 205 26 (zPo (μ0 220) k))) : zSt μ0 μ2 o n k := by
  obtain ⟨a1, a2, a3, a4, a5, a6, a7, a8, a9⟩ := h
  have hb := zPb_s (μ0 220) k
  have hq := zPq_s (μ0 220) k
  have hoo := zPo_s (μ0 220) k
  rw [hp] at hb hq hoo
  have c25 : μ1 205 25 = μ 205 25 := by rw [e1, pm_up_ne (by decide)]
  have c28 : μ1 205 28 = (k : Int) := by rw [e1, pm_up_eq, hx]
  have cE : zEm μ μ1 (zPb (μ0 220) (k + 1) + 1) (zPb (μ0 220) (k + 1) + 1) := zEm_same c25 (by rw [e1, pm_up_row (by decide)]) (by rw [e1, pm_up_row (by decide)])
  have cF : ∀ r, r ≠ 205 → μ1 r = μ r := fun r hr => by rw [e1, pm_up_row hr]
  have cG : ∀ j, j ≠ 28 → μ1 205 j = μ 205 j := fun j hj => by rw [e1, pm_up_ne hj]
  have d25 := he.1
  have d28 := he.2.2.2.2.2.2 28 (by decide)
  have d26 := he.2.2.2.2.2.2 26 (by decide)
  have dF := he.2.2.2.2.2.1
  have dG := he.2.2.2.2.2.2
  have b0 := (zP_bd (a7.1)).1
  rcases h2 with ⟨h9, rfl⟩ | ⟨rfl, h2⟩
  · have hb : zPb (μ0 220) (k + 1) = zPb (μ0 220) k + 1 := by rw [hb, if_pos (by omega)]
    have hq : zPq (μ0 220) (k + 1) = zPq (μ0 220) k := by rw [hq, if_neg (by omega)]; omega
    have hoo : zPo (μ0 220) (k + 1) = zPo (μ0 220) k := by rw [hoo, if_neg (by omega)]; omega
    refine ⟨by omega, by rw [d28, c28], by omega, by rw [d26, cG 26 (by decide), a4, hoo], zEm_trans a5 (zEm_trans cE (zEm_lift (zE1_two he (by omega) (by omega) h9 (fun h => by omega)) b0 (by omega) (by omega))), ⟨fun r q1 q2 q3 => by rw [dF r q1 q2 q3, cF r q1, a6.1 r q1 q2 q3], fun j q1 q2 q3 => by rw [dG j q1, cG j q3, a6.2 j q1 q2 q3]⟩, a7.1, by rw [← hq]; exact a8, Or.inr ⟨hp, a7⟩⟩
  · have hb : zPb (μ0 220) (k + 1) = zPb (μ0 220) k := by rw [hb, if_neg (by omega)]; omega
    have hq : zPq (μ0 220) (k + 1) = zPq (μ0 220) k := by rw [hq, if_neg (by omega)]; omega
    have f25 : μ2 205 25 = μe 205 25 := by rw [h2, pm_up_ne (by decide)]
    have fE : zEm μe μ2 (zPb (μ0 220) k + 1) (zPb (μ0 220) k + 1) := zEm_same f25 (by rw [h2, pm_up_row (by decide)]) (by rw [h2, pm_up_row (by decide)])
    refine ⟨by omega, by rw [h2, pm_up_ne (by decide), d28, c28], by omega, by rw [h2, pm_up_eq], zEm_trans a5 (zEm_trans cE (zEm_trans (zEm_lift (zE1_not he) b0 (by omega) (by omega)) fE)), ⟨fun r q1 q2 q3 => by rw [h2, pm_up_row q1, dF r q1 q2 q3, cF r q1, a6.1 r q1 q2 q3], fun j q1 q2 q3 => by rw [h2, pm_up_ne q2, dG j q1, cG j q3, a6.2 j q1 q2 q3]⟩, a7.1, by rw [← hq]; exact a8, Or.inr ⟨hp, a7⟩⟩
theorem zPk_top {p : Int → Int} {n : Nat} (h : zPk p n) : n = 0 ∨ p ((n : Int) - 1) = 12 ∨ p ((n : Int) - 1) = 9 ∨ p ((n : Int) - 1) = 11 ∨ p ((n : Int) - 1) = 10 := by
  cases n with
  | zero => exact Or.inl rfl
  | succ n =>
    rw [show ((n + 1 : Nat) : Int) - 1 = (n : Int) by omega]
    rcases h.2 with q | q | q | q
    · exact Or.inr (Or.inl q)
    · exact Or.inr (Or.inr (Or.inl q))
    · exact Or.inr (Or.inr (Or.inr (Or.inl q.1)))
    · exact Or.inr (Or.inr (Or.inr (Or.inr q.1)))
theorem zTp10 {μ μ' : pm_Mem} {n n' : Nat} (hk : zPk (μ 220) n) (h9 : n = 0 ∨ μ 220 ((n : Int) - 1) ≠ 9) (h : zSt μ μ' 10 n n') (ht : n' = 0 ∨ μ 220 ((n' : Int) - 1) ≠ 10) : n' = 0 ∨ μ 220 ((n' : Int) - 1) = 12 ∨ μ 220 ((n' : Int) - 1) = 11 := by
  rcases h.2.2.2.2.2.2.2.2 with rfl | ⟨e, q⟩
  · have := zPk_top hk
    omega
  · rcases q.2 with q | q | q | q
    · omega
    · omega
    · omega
    · exact q.2
theorem zTp11 {μ μ' : pm_Mem} {n n' : Nat} (ht0 : n = 0 ∨ μ 220 ((n : Int) - 1) = 12 ∨ μ 220 ((n : Int) - 1) = 11) (h : zSt μ μ' 11 n n') (ht : n' = 0 ∨ μ 220 ((n' : Int) - 1) ≠ 11) : n' = 0 ∨ μ 220 ((n' : Int) - 1) = 12 := by
  rcases h.2.2.2.2.2.2.2.2 with rfl | ⟨e, q⟩
  · omega
  · rcases q.2 with q | q | q | q
    · omega
    · omega
    · exact q.2
    · omega
/-- a condition as far as it is read: q brackets stand open, t is 1 where a value is looked for -/
def zAn (μ0 μ : pm_Mem) (w q t : Int) (m : Nat) : Prop := zTJ μ ∧ zRd μ ∧ μ 205 28 = (m : Int) ∧ μ 205 26 = zPo (μ 220) m ∧ zPk (μ 220) m ∧ q = zPq (μ 220) m ∧ μ 205 25 + m + w ≤ μ 205 13 ∧ zEm μ0 μ 0 (zPb (μ 220) m + 1 - t) ∧ zFw μ0 μ
theorem zRd_Fr {μ μ' : pm_Mem} (h : ∀ k, 12 ≤ k → k ≤ 15 → μ' 205 k = μ 205 k) (hR : zRd μ) : zRd μ' := by
  unfold zRd at hR ⊢
  rw [h 12 (by decide) (by decide), h 13 (by decide) (by decide), h 14 (by decide) (by decide), h 15 (by decide) (by decide)]
  exact hR
/-- read on -/
theorem zAn_reads {μ0 μ μ' : pm_Mem} {w q t : Int} {m : Nat} (h : zAn μ0 μ w q t m) (hT : zTJ μ') (hF : zFr μ μ') (hS : μ 205 12 ≤ μ' 205 13) (hR : zRd μ') : zAn μ0 μ' w q t m := by
  obtain ⟨a1, a2, a3, a4, a5, a6, a7, a8, a9⟩ := h
  have e := hF.2 25 (by decide) (by decide) (by decide) (by decide)
  have e2 := a2.2.1
  refine ⟨hT, hR, by rw [hF.2 28 (by decide) (by decide) (by decide) (by decide)]; exact a3, ?_, ?_, ?_, by omega, ?_, zFw_trans a9 (zFs_w (zFr_s hF))⟩
  all_goals rw [hF.1 220 (by decide)]
  · rw [hF.2 26 (by decide) (by decide) (by decide) (by decide)]; exact a4
  · exact a5
  · exact a6
  · exact zEm_trans a8 (zEm_fr hF)
/-- a value was read -/
theorem zAn_val {μ0 μ μ' : pm_Mem} {w q : Int} {m : Nat} (h : zAn μ0 μ w q 1 m) (hT : zTJ μ') (hO : zOK μ μ' (m + w)) : zAn μ0 μ' w q 0 m := by
  obtain ⟨a1, a2, a3, a4, a5, a6, a7, a8, a9⟩ := h
  obtain ⟨o1, o2, o3, o4, o5⟩ := hO
  have b0 := (zP_bd a5).1
  refine ⟨hT, o1, by rw [o5.2 28 (by decide) (by decide) (by decide) (by decide) (by decide)]; exact a3, ?_, ?_, ?_, by omega, ?_, zFw_trans a9 (zFs_w o5)⟩
  all_goals rw [o5.1 220 (by decide) (by decide) (by decide)]
  · rw [o5.2 26 (by decide) (by decide) (by decide) (by decide) (by decide)]; exact a4
  · exact a5
  · exact a6
  · exact zEm_trans a8 (zEm_lift o4 b0 (by omega) (by omega))
/-- some of what waited was settled -/
theorem zAn_set {μ0 μ μ' : pm_Mem} {w q o : Int} {m n : Nat} (h : zAn μ0 μ w q 0 m) (hT : zTJ μ') (hs : zSt μ μ' o m n) : zAn μ0 μ' w q 0 n := by
  obtain ⟨a1, a2, a3, a4, a5, a6, a7, a8, a9⟩ := h
  obtain ⟨s1, s2, s3, s4, s5, s6, s7, s8, s9⟩ := hs
  have e13 := s6.2 13 (by decide) (by decide) (by decide)
  have a8 : zEm μ0 μ 0 (zPb (μ 220) m + 1) := by
    rw [show zPb (μ 220) m + 1 = zPb (μ 220) m + 1 - 0 by omega]; exact a8
  refine ⟨hT, zRd_Fr (fun k k1 k2 => s6.2 k (by omega) (by omega) (by omega)) a2, s2, ?_, ?_, ?_, by omega, ?_, zFw_trans a9 (zFp_w s6)⟩
  all_goals rw [s6.1 220 (by decide) (by decide) (by decide)]
  · exact s4
  · exact s7
  · rw [s8]; exact a6
  · rw [show zPb (μ 220) n + 1 - 0 = zPb (μ 220) n + 1 by omega]
    exact zEm_trans a8 s5
/-- one more waits -/
theorem zAn_wait {μ0 μ μ1 μ2 : pm_Mem} {w q t v : Int} {m : Nat} (h : zAn μ0 μ w q t m) (hT : zTJ μ2) (e1 : μ1 = pm_up μ 220 (m : Int) v) (e2 : μ2 = pm_up μ1 205 28 ((m : Int) + 1)) (h12 : μ 205 25 + (m + 1) + w ≤ μ 205 13 + 1) (hv : (t = 0 ∧ v = 10 ∧ (m = 0 ∨ μ 220 ((m : Int) - 1) = 12 ∨ μ 220 ((m : Int) - 1) = 11)) ∨ (t = 0 ∧ v = 11 ∧ (m = 0 ∨ μ 220 ((m : Int) - 1) = 12))) {μ3 : pm_Mem} (hT3 : zTJ μ3) (hF : zFr μ2 μ3) (hS : μ2 205 12 ≤ μ3 205 13) (hR : zRd μ3) (hadv : μ 205 13 < μ 205 12) : zAn μ0 μ3 w q 1 (m + 1) := by
  obtain ⟨a1, a2, a3, a4, a5, a6, a7, a8, a9⟩ := h
  have c220 : ∀ i : Int, i < m → μ3 220 i = μ 220 i := fun i hi => by rw [hF.1 220 (by decide), e2, pm_up_off (by decide), e1, pm_up_ne (by omega)]
  have cm : μ3 220 (m : Int) = v := by rw [hF.1 220 (by decide), e2, pm_up_off (by decide), e1, pm_up_eq]
  have cF : ∀ k, k ≠ 12 → k ≠ 13 → k ≠ 14 → k ≠ 15 → k ≠ 28 → μ3 205 k = μ 205 k := fun k k1 k2 k3 k4 k5 => by rw [hF.2 k k1 k2 k3 k4, e2, pm_up_ne k5, e1, pm_up_off (by decide)]
  have c28 : μ3 205 28 = (m : Int) + 1 := by rw [hF.2 28 (by decide) (by decide) (by decide) (by decide), e2, pm_up_eq]
  have c12 : μ2 205 12 = μ 205 12 := by rw [e2, pm_up_ne (by decide), e1, pm_up_off (by decide)]
  have cR : ∀ r, r ≠ 205 → r ≠ 220 → μ3 r = μ r := fun r r1 r2 => by rw [hF.1 r r1, e2, pm_up_row r1, e1, pm_up_row r2]
  obtain ⟨p1, p2, p3, p4⟩ := zP_congr c220
  have c25 := cF 25 (by decide) (by decide) (by decide) (by decide) (by decide)
  have c26 := cF 26 (by decide) (by decide) (by decide) (by decide) (by decide)
  have hb := zPb_s (μ3 220) m
  have hq := zPq_s (μ3 220) m
  have ho := zPo_s (μ3 220) m
  rw [cm] at hb hq ho
  rw [if_pos (by omega)] at hb
  rw [if_neg (by omega)] at hq ho
  have ht : t = 0 := by omega
  subst ht
  refine ⟨hT3, hR, by omega, by omega, ⟨p4 a5, ?_⟩, by omega, by omega, ?_, zFw_trans a9 ⟨fun r r1 _ _ r4 => cR r r1 r4, fun k k1 k2 k3 k4 _ _ k7 => cF k k1 k2 k3 k4 k7⟩⟩
  · rw [cm]
    have e3 : m = 0 ∨ μ3 220 ((m : Int) - 1) = μ 220 ((m : Int) - 1) := by
      by_cases hm : m = 0
      · exact Or.inl hm
      · exact Or.inr (c220 _ (by omega))
    omega
  · refine zEm_trans (b := zPb (μ 220) m + 1 - 0) a8 ?_
    rw [show zPb (μ3 220) (m + 1) + 1 - 1 = zPb (μ 220) m + 1 - 0 by omega]
    exact zEm_same c25 (cR 218 (by decide) (by decide)) (cR 219 (by decide) (by decide))
/-- a not, or a bracket that opens, waits -/
theorem zAn_open {μ0 μ μa μ1 μ2 μ3 : pm_Mem} {w q q' v x : Int} {m : Nat} (h : zAn μ0 μ w q 1 m) (ea : μa = pm_up μ 205 26 x) (hx : x = μ 205 26 + 1) (e1 : μ1 = pm_up μa 220 (m : Int) v) (e2 : μ2 = pm_up μ1 205 28 ((m : Int) + 1)) (hv : (v = 9 ∧ q' = q) ∨ (v = 12 ∧ q' = q + 1)) (hT3 : zTJ μ3) (hF : zFr μ2 μ3) (hS : μ2 205 12 ≤ μ3 205 13) (hR : zRd μ3) (hadv : μ 205 13 < μ 205 12) : zAn μ0 μ3 w q' 1 (m + 1) := by
  obtain ⟨a1, a2, a3, a4, a5, a6, a7, a8, a9⟩ := h
  have c220 : ∀ i : Int, i < m → μ3 220 i = μ 220 i := fun i hi => by rw [hF.1 220 (by decide), e2, pm_up_off (by decide), e1, pm_up_ne (by omega), ea, pm_up_off (by decide)]
  have cm : μ3 220 (m : Int) = v := by rw [hF.1 220 (by decide), e2, pm_up_off (by decide), e1, pm_up_eq]
  have cF : ∀ k, k ≠ 12 → k ≠ 13 → k ≠ 14 → k ≠ 15 → k ≠ 26 → k ≠ 28 → μ3 205 k = μ 205 k := fun k k1 k2 k3 k4 k6 k5 => by rw [hF.2 k k1 k2 k3 k4, e2, pm_up_ne k5, e1, pm_up_off (by decide), ea, pm_up_ne k6]
  have c28 : μ3 205 28 = (m : Int) + 1 := by rw [hF.2 28 (by decide) (by decide) (by decide) (by decide), e2, pm_up_eq]
  have c26 : μ3 205 26 = μ 205 26 + 1 := by rw [hF.2 26 (by decide) (by decide) (by decide) (by decide), e2, pm_up_ne (by decide), e1, pm_up_off (by decide), ea, pm_up_eq, hx]
  have c12 : μ2 205 12 = μ 205 12 := by rw [e2, pm_up_ne (by decide), e1, pm_up_off (by decide), ea, pm_up_ne (by decide)]
  have cR : ∀ r, r ≠ 205 → r ≠ 220 → μ3 r = μ r := fun r r1 r2 => by rw [hF.1 r r1, e2, pm_up_row r1, e1, pm_up_row r2, ea, pm_up_row r1]
  obtain ⟨p1, p2, p3, p4⟩ := zP_congr c220
  have c25 := cF 25 (by decide) (by decide) (by decide) (by decide) (by decide) (by decide)
  have hb := zPb_s (μ3 220) m
  have hq := zPq_s (μ3 220) m
  have ho := zPo_s (μ3 220) m
  rw [cm] at hb hq ho
  rw [if_neg (by omega)] at hb
  rw [if_pos (by omega)] at ho
  have hq : zPq (μ3 220) (m + 1) = zPq (μ3 220) m + (q' - q) := by
    rcases hv with ⟨h1, h2⟩ | ⟨h1, h2⟩
    · rw [hq, if_neg (by omega)]; omega
    · rw [hq, if_pos (by omega)]; omega
  refine ⟨hT3, hR, by omega, by omega, ⟨p4 a5, ?_⟩, by omega, by omega, ?_, zFw_trans a9 ⟨fun r r1 _ _ r4 => cR r r1 r4, fun k k1 k2 k3 k4 _ k6 k7 => cF k k1 k2 k3 k4 k6 k7⟩⟩
  · rw [cm]
    omega
  · refine zEm_trans a8 ?_
    rw [show zPb (μ3 220) (m + 1) + 1 - 1 = zPb (μ 220) m + 1 - 1 by omega]
    exact zEm_same c25 (cR 218 (by decide) (by decide)) (cR 219 (by decide) (by decide))
/-- a bracket closes -/
theorem zAn_close {μ0 μ μ1 μ2 : pm_Mem} {w q x y : Int} {k : Nat} (h : zAn μ0 μ w q 0 (k + 1)) (hp : μ 220 (k : Int) = 12) (e1 : μ1 = pm_up μ 205 28 x) (hx : x = (k : Int)) (e2 : μ2 = pm_up μ1 205 26 y) (hy : y = μ 205 26 - 1) (hT : zTJ μ2) : zAn μ0 μ2 w (q - 1) 0 k := by
  obtain ⟨a1, a2, a3, a4, a5, a6, a7, a8, a9⟩ := h
  have cF : ∀ j, j ≠ 26 → j ≠ 28 → μ2 205 j = μ 205 j := fun j j1 j2 => by rw [e2, pm_up_ne j1, e1, pm_up_ne j2]
  have cR : ∀ r, r ≠ 205 → μ2 r = μ r := fun r hr => by rw [e2, pm_up_row hr, e1, pm_up_row hr]
  have c28 : μ2 205 28 = (k : Int) := by rw [e2, pm_up_ne (by decide), e1, pm_up_eq, hx]
  have c26 : μ2 205 26 = μ 205 26 - 1 := by rw [e2, pm_up_eq, hy]
  have hb := zPb_s (μ 220) k
  have hq := zPq_s (μ 220) k
  have ho := zPo_s (μ 220) k
  rw [hp] at hb hq ho
  rw [if_neg (by omega)] at hb
  rw [if_pos (by omega)] at hq ho
  have c25 := cF 25 (by decide) (by decide)
  have c13 := cF 13 (by decide) (by decide)
  refine ⟨hT, zRd_Fr (fun j j1 j2 => cF j (by omega) (by omega)) a2, c28, ?_, ?_, ?_, by omega, ?_, zFw_trans a9 ⟨fun r r1 _ _ _ => cR r r1, fun j _ _ _ _ _ j1 j2 => cF j j1 j2⟩⟩
  all_goals rw [cR 220 (by decide)]
  · omega
  · exact a5.1
  · omega
  · refine zEm_trans a8 ?_
    rw [show zPb (μ 220) (k + 1) + 1 - 0 = zPb (μ 220) k + 1 - 0 by omega]
    exact zEm_same c25 (cR 218 (by decide)) (cR 219 (by decide))
theorem zAn_bd {μ0 μ : pm_Mem} {w q t : Int} {m : Nat} (h : zAn μ0 μ w q t m) (hw : 0 ≤ w) : 0 ≤ μ 205 25 ∧ μ 205 25 + m ≤ 400 := by
  obtain ⟨a1, a2, a3, a4, a5, a6, a7, a8, a9⟩ := h
  obtain ⟨r1, r2, r3, -⟩ := a2
  have := zT_get a1 zs205_25 (i := 25) (by omega) (by omega)
  omega
theorem zAn_28 {μ0 μ : pm_Mem} {w q t : Int} {m : Nat} (h : zAn μ0 μ w q t m) : 0 ≤ μ 205 28 ∧ μ 205 28 < 40 - 2 := by
  obtain ⟨a1, a2, a3, a4, a5, a6, a7, a8, a9⟩ := h
  have := zT_get a1 zs205_26 (i := 26) (by omega) (by omega)
  have := zP_bd a5
  omega
theorem zAn_adv {μ0 μ : pm_Mem} {w q t : Int} {m : Nat} (h : zAn μ0 μ w q t m) (ht : μ 205 14 ≠ 0) : μ 205 13 < μ 205 12 := h.2.1.2.2.2.2.2.1 ht
/-- a condition was read well -/
def zOA (μ μ' : pm_Mem) (w : Int) : Prop := zRd μ' ∧ μ 205 13 ≤ μ' 205 13 ∧ μ' 205 25 + w ≤ μ' 205 13 ∧ (∃ b, zEm μ μ' 0 b) ∧ zFw μ μ'
theorem zAn_end {μ0 μ : pm_Mem} {w q t : Int} {m : Nat} (h : zAn μ0 μ w q t m) (h13 : μ0 205 13 ≤ μ 205 13) : zOA μ0 μ w := by
  obtain ⟨a1, a2, a3, a4, a5, a6, a7, a8, a9⟩ := h
  exact ⟨a2, h13, by omega, ⟨_, a8⟩, a9⟩
def zNt (p : Int → Int) (k : Nat) (o : Int) : Prop := k = 0 ∨ p ((k : Int) - 1) ≠ o
def zIt2 (p : Int → Int) (k : Nat) : Prop := k = 0 ∨ p ((k : Int) - 1) = 12 ∨ p ((k : Int) - 1) = 11
def zIt1 (p : Int → Int) (k : Nat) : Prop := k = 0 ∨ p ((k : Int) - 1) = 12
theorem zNt_mk {p : Int → Int} {k : Nat} {o : Int} (h : k = 0 ∨ p ((k : Int) - 1) ≠ o) : zNt p k o := h
theorem zIt2_mk {p : Int → Int} {k : Nat} (h : k = 0 ∨ p ((k : Int) - 1) = 12 ∨ p ((k : Int) - 1) = 11) : zIt2 p k := h
theorem zIt1_mk {p : Int → Int} {k : Nat} (h : k = 0 ∨ p ((k : Int) - 1) = 12) : zIt1 p k := h
theorem zIt1_12 {p : Int → Int} {k : Nat} (h : zIt1 p (k + 1)) : p (k : Int) = 12 := by
  rcases h with h | h
  · omega
  · rw [show ((k + 1 : Nat) : Int) - 1 = (k : Int) by omega] at h
    exact h
theorem zAn_open0 {μ0 μ : pm_Mem} {w q : Int} {n : Nat} (h : zAn μ0 μ w q 0 n) (ht : zIt1 (μ 220) n) (hq : q = 0) : μ 205 26 = 0 := by
  obtain ⟨a1, a2, a3, a4, a5, a6, a7, a8, a9⟩ := h
  cases n with
  | zero => exact a4
  | succ k =>
    have e := zIt1_12 ht
    have s := zPq_s (μ 220) k
    rw [e, if_pos rfl] at s
    have := zP_bd a5.1
    omega
theorem zAn_0 {μ μ1 : pm_Mem} {w : Int} (hT : zTJ μ1) (hR : zRd μ) (ho : μ 205 26 = 0) (hw : μ 205 25 + w ≤ μ 205 13) (e : μ1 = pm_up μ 205 28 0) : zAn μ μ1 w 0 1 0 := by
  have cF : ∀ j, j ≠ 28 → μ1 205 j = μ 205 j := fun j j1 => by rw [e, pm_up_ne j1]
  have cR : ∀ r, r ≠ 205 → μ1 r = μ r := fun r hr => by rw [e, pm_up_row hr]
  have c25 := cF 25 (by decide)
  have c13 := cF 13 (by decide)
  refine ⟨hT, zRd_Fr (fun j j1 j2 => cF j (by omega)) hR, by rw [e, pm_up_eq]; rfl, by rw [cF 26 (by decide), ho]; rfl, trivial, rfl, by omega, ?_, ⟨fun r r1 _ _ _ => cR r r1, fun j _ _ _ _ _ _ j7 => cF j j7⟩⟩
  exact zEm_same c25 (cR 218 (by decide)) (cR 219 (by decide))
/-- the lines read so far -/
def zLn (μ : pm_Mem) (n : Int) : Prop := ∀ l : Int, 0 ≤ l → l < n → 0 ≤ μ 215 (32 + l) ∧ μ 215 (32 + l) ≤ μ 216 (32 + l) ∧ μ 216 (32 + l) ≤ μ 217 (32 + l) ∧ μ 217 (32 + l) ≤ μ 205 25 ∧ zSafe (μ 218) (μ 219) (μ 216 (32 + l) - μ 215 (32 + l)).toNat (800 + μ 215 (32 + l)) 0 ∧ zSafe (μ 218) (μ 219) (μ 217 (32 + l) - μ 216 (32 + l)).toNat (800 + μ 216 (32 + l)) 0
theorem zSafe_low {op arg op' arg' : Int → Int} {b : Int} (ho : ∀ i, i < b → op' i = op i) (ha : ∀ i, i < b → arg' i = arg i) : ∀ {n : Nat} {k h : Int}, k + n ≤ b → zSafe op arg n k h → zSafe op' arg' n k h
  | 0, _, _, _, _ => trivial
  | n + 1, k, h, hb, hs => by
    have e1 := ho k (by omega)
    have e2 := ha k (by omega)
    have e3 := ho (k - 1) (by omega)
    have e4 := ha (k - 1) (by omega)
    rcases hs with ⟨a1, a2, a3⟩ | ⟨a1, a2, a3⟩ | ⟨a1, a2, a3, a4, a5, a6⟩
    · exact Or.inl ⟨by rw [e1]; exact a1, by rw [e1, e2]; exact a2, zSafe_low ho ha (by omega) a3⟩
    · exact Or.inr (Or.inl ⟨by rw [e1]; exact a1, a2, zSafe_low ho ha (by omega) a3⟩)
    · exact Or.inr (Or.inr ⟨by rw [e1]; exact a1, by rw [e1]; exact a2, by rw [e1]; exact a3, a4, by rw [e1, e3, e4]; exact a5, zSafe_low ho ha (by omega) a6⟩)
theorem zEm_safe {μ μ' : pm_Mem} {b : Int} (h : zEm μ μ' 0 b) : zSafe (μ' 218) (μ' 219) (μ' 205 25 - μ 205 25).toNat (800 + μ 205 25) 0 := by
  obtain ⟨m, h1, h2, -⟩ := h
  rw [show (μ' 205 25 - μ 205 25).toNat = m by omega]
  exact zRn_safe (h2 0 (by decide))
/-- one line more -/
theorem zLn_step {μ μs μw μ' : pm_Mem} {n b : Int} (h : zLn μ n) (hn : 0 ≤ n) (e0 : 0 ≤ μ 205 25) (h1 : zEm μ μs 0 1) (h2 : zEm μs μw 0 b) (f218 : μ' 218 = μw 218) (f219 : μ' 219 = μw 219) (f25 : μ' 205 25 = μw 205 25) (g1 : μ' 215 (32 + n) = μ 205 25) (g2 : μ' 216 (32 + n) = μs 205 25) (g3 : μ' 217 (32 + n) = μw 205 25) (k1 : ∀ l, 0 ≤ l → l < n → μ' 215 (32 + l) = μ 215 (32 + l)) (k2 : ∀ l, 0 ≤ l → l < n → μ' 216 (32 + l) = μ 216 (32 + l)) (k3 : ∀ l, 0 ≤ l → l < n → μ' 217 (32 + l) = μ 217 (32 + l)) : zLn μ' (n + 1) := by
  have s1 := zEm_safe h1
  have s2 := zEm_safe h2
  obtain ⟨m1, a1, a2, a3, a4⟩ := h1
  obtain ⟨m2, b1, b2, b3, b4⟩ := h2
  intro l l0 l1
  rw [f218, f219]
  by_cases hl : l = n
  · subst hl
    rw [g1, g2, g3, f25]
    refine ⟨e0, by omega, by omega, by omega, zSafe_low b3 b4 (by omega) s1, s2⟩
  · obtain ⟨q1, q2, q3, q4, q5, q6⟩ := h l l0 (by omega)
    rw [k1 l l0 (by omega), k2 l l0 (by omega), k3 l l0 (by omega), f25]
    have c1 : ∀ i, i < 800 + μ 205 25 → μw 218 i = μ 218 i := fun i hi => by rw [b3 i (by omega), a3 i hi]
    have c2 : ∀ i, i < 800 + μ 205 25 → μw 219 i = μ 219 i := fun i hi => by rw [b4 i (by omega), a4 i hi]
    exact ⟨q1, q2, q3, by omega, zSafe_low c1 c2 (by omega) q5, zSafe_low c1 c2 (by omega) q6⟩
theorem zT_line {μ : pm_Mem} (hT : zTJ μ) {r : Nat} (hr : r = 215 ∨ r = 216 ∨ r = 217) {i x : Int} (h0 : 16 ≤ i ∧ i < 48) (hx : 0 ≤ x ∧ x ≤ 400) : zTJ (pm_up μ r i x) := by
  obtain ⟨a, b, c⟩ := hT.2
  have nr : ∀ s : Nat, s ≠ 215 → s ≠ 216 → s ≠ 217 → pm_up μ r i x s = μ s := fun s h1 h2 h3 => pm_up_row (by omega)
  have nl : ∀ (s : Nat) (l : Int), l < 16 → μ s l = pm_up μ r i x s l := fun s l hl => (if_neg (fun q => by omega)).symm
  refine ⟨?_, zLaw_congr ?_ (fun l _ l1 => nl 215 l l1) (fun l _ l1 => nl 216 l l1) (fun l _ l1 => nl 217 l l1) (fun i _ _ => by rw [nr 218 (by decide) (by decide) (by decide)]) (fun i _ _ => by rw [nr 219 (by decide) (by decide) (by decide)]) a, ?_, ?_⟩
  · rcases hr with rfl | rfl | rfl
    · exact zTy_upT hT.1 zs215_0 (by omega) (by omega) hx.1 hx.2
    · exact zTy_upT hT.1 zs216_0 (by omega) (by omega) hx.1 hx.2
    · exact zTy_upT hT.1 zs217_0 (by omega) (by omega) hx.1 hx.2
  · rw [nr 213 (by decide) (by decide) (by decide)]
  · rw [nr 222 (by decide) (by decide) (by decide)]; exact b
  · rw [nr 245 (by decide) (by decide) (by decide)]; exact c
