/-! F: the class's arcade, its book, its texts (behind f9, f10, f11) -/
theorem fa_A_n {a : Nat} {n m : Int} {N N' pol : Int → Int} {μ : pm_Mem} (h : fa_A a n m N pol μ) (e0 : N' 0 = N 0) (e1 : N' 1 = N 1) (e2 : N' 2 = N 2) (e : ∀ i : Int, 4 ≤ i → i < 160 → N' i = N i) (hq : n ≤ 12 ∧ m ≤ 18) : fa_A a n m N' pol μ := by
  obtain ⟨⟨a0, a1, a2, a3, a4⟩, hT, hp⟩ := h
  refine ⟨⟨a0, a1, by rw [e1]; exact a2, by rw [e0]; exact a3, by rw [e2]; exact a4⟩, fun q hq' s s0 s1 => ?_, hp⟩
  have hb := fa_T_b q hq'
  have hl := fa_len_b (k := q.2.2.1) hq
  have hz := (show ∀ q ∈ fa_T, q.2.1 + (if q.2.2.1 = 0 then 12 else 18) ≤ 160 by decide) q hq'
  rw [e _ (by omega) (by omega)]
  exact hT q hq' s s0 s1
/-- the class's book -/
def fa_B (N B : Int → Int) (μ : pm_Mem) : Prop := μ 2 2 = N 3 ∧ ∀ i : Int, 0 ≤ i → i < 750 → μ 16 i = B i
/-- an arcade and, where it isn't in thought, the book -/
def fa_C (th : Bool) (a : Nat) (n m : Int) (S : fa_St) (pol : Int → Int) (μ : pm_Mem) : Prop := fa_A a n m S.1 pol μ ∧ (th = false → fa_B S.1 S.2 μ)
def fc_L3 : List Nat := [2, 3, 4, 5, 6, 7, 8, 9, 10, 11, 12, 13, 14, 15, 16, 178, 179]
def fc_L182 : List Nat := [178, 179, 182, 183, 184, 185, 186, 187, 188, 189, 190, 191, 192, 193, 194]
theorem fa_fr_t {L : List Nat} {μ μ1 μ2 : pm_Mem} (h : fa_fr L μ μ1) (h2 : fa_fr L μ1 μ2) : fa_fr L μ μ2 := fun q hq => (h2 q hq).trans (h q hq)
theorem fa_fr_78 {L : List Nat} {μ μ1 : pm_Mem} (h : ∀ r, r ≠ 178 → r ≠ 179 → μ1 r = μ r) (h8 : L.contains 178 = true) (h9 : L.contains 179 = true) : fa_fr L μ μ1 := fun q hq => h q (fun e => by rw [e, h8] at hq; cases hq) (fun e => by rw [e, h9] at hq; cases hq)
section FC12
variable {a : Nat} {n m : Int} {N B pol : Int → Int} {μ μ' : pm_Mem} {S : fa_St} {th : Bool}
theorem fa_A_78 (h : fa_A a n m N pol μ) (hf : ∀ r, r ≠ 178 → r ≠ 179 → μ' r = μ r) (ha : a + 12 < 178 ∨ 179 < a) : fa_A a n m N pol μ' := fa_A_fr h (fun r h1 h2 => hf r (by omega) (by omega))
theorem fa_B_fr (h : fa_B N B μ) (e2 : μ' 2 = μ 2) (e16 : μ' 16 = μ 16) : fa_B N B μ' := by
  unfold fa_B
  rw [e2, e16]
  exact h
theorem fa_B_n {N' : Int → Int} (h : fa_B N B μ) (e : N' 3 = N 3) : fa_B N' B μ := by
  unfold fa_B
  rw [e]
  exact h
theorem fa_C_78 (h : fa_C th a n m S pol μ) (hf : ∀ r, r ≠ 178 → r ≠ 179 → μ' r = μ r) (ha : a + 12 < 178 ∨ 179 < a) : fa_C th a n m S pol μ' := ⟨fa_A_78 h.1 hf ha, fun e => fa_B_fr (h.2 e) (hf 2 (by decide) (by decide)) (hf 16 (by decide) (by decide))⟩
/-- a store into the arcade: the book stays -/
theorem fa_C_w {N' : Int → Int} {r : Nat} {i x : Int} (h : fa_C th a n m (N, B) pol μ) (hA : fa_A a n m N' pol (pm_up μ r i x)) (hr : r ≠ 2 ∧ r ≠ 16) (e3 : N' 3 = N 3) : fa_C th a n m (N', B) pol (pm_up μ r i x) := ⟨hA, fun e => fa_B_n (fa_B_fr (h.2 e) (pm_up_row (fun c => hr.1 c.symm)) (pm_up_row (fun c => hr.2 c.symm))) e3⟩
theorem fc_last_y {c s : Int} (h : fa_A a n m N pol μ) (hq : n ≤ 12 ∧ m ≤ 18) (hs : 0 ≤ s ∧ s < n) (hl : N (52 + s) = c + 1) : fa_A a n m (fa_last N c s) pol (pm_up μ (a + 5) s c) := by
  rw [fa_last_y hl]
  have h1 := fa_w_last (x := c + 1) (v := c) h hq hs.1 hs.2 (by omega)
  have e : fa_up N (52 + s) (c + 1) = N := by rw [← hl]; exact fa_id
  rw [e] at h1
  exact h1
theorem fc_last_n {c s x : Int} (h : fa_A a n m N pol μ) (hq : n ≤ 12 ∧ m ≤ 18) (hs : 0 ≤ s ∧ s < n) (hl : N (52 + s) ≠ c + 1) (hx : x = N (52 + s) - 1) : fa_A a n m (fa_last N c s) pol (pm_up (pm_up μ (a + 6) s x) (a + 5) s c) := by
  rw [fa_last_n hl]
  exact fa_w_last (fa_w_before h hq hs.1 hs.2 hx) hq hs.1 hs.2 (by omega)
theorem fa_last_3 {c s : Int} (hs : 0 ≤ s) : fa_last N c s 3 = N 3 := by
  unfold fa_last
  split
  · rfl
  · rw [fa_up_ne (by omega), fa_up_ne (by omega)]
/-- as the class does it: goods, purse, till, bought, then who was last -/
theorem fc_bought_e {c s v : Int} (hc : 0 ≤ c ∧ c < 18) (hs : 0 ≤ s ∧ s < 12) : fa_bought th c s v (N, B) = fa_note th 0 c v (fa_last (fa_up (fa_up (fa_up (fa_up N (4 + s) (N (4 + s) - 1)) (88 + c) (N (88 + c) - v)) (28 + s) (pm_w32 (N (28 + s) + v))) (142 + c) (pm_w32 (N (142 + c) + 1))) c s, B) := by
  have e : fa_thing (fa_up (fa_up N (88 + c) (N (88 + c) - v)) (28 + s) (pm_w32 (N (28 + s) + v))) c s = fa_last (fa_up (fa_up (fa_up (fa_up N (4 + s) (N (4 + s) - 1)) (88 + c) (N (88 + c) - v)) (28 + s) (pm_w32 (N (28 + s) + v))) (142 + c) (pm_w32 (N (142 + c) + 1))) c s := by
    unfold fa_thing
    congr 1
    unfold fa_bt
    rw [fa_up_ne (i := 4 + s) (j := 28 + s) (by omega), fa_up_ne (i := 4 + s) (j := 88 + c) (by omega), fa_comm (j := 28 + s) (k := 4 + s) (by omega), fa_comm (j := 88 + c) (k := 4 + s) (by omega), fa_up_ne (i := 142 + c) (j := 28 + s) (by omega), fa_up_ne (i := 142 + c) (j := 88 + c) (by omega), fa_up_ne (i := 142 + c) (j := 4 + s) (by omega)]
  unfold fa_bought
  rw [← e]
theorem fc_thing_e {c s : Int} (hc : 0 ≤ c ∧ c < 18) (hs : 0 ≤ s ∧ s < 12) : fa_thing N c s = fa_last (fa_up (fa_up N (4 + s) (N (4 + s) - 1)) (142 + c) (pm_w32 (N (142 + c) + 1))) c s := by
  unfold fa_thing fa_bt
  rw [fa_up_ne (i := 142 + c) (j := 4 + s) (by omega)]
/-- a line of the book -/
theorem fa_bk_cg {B' : Int → Int} {k x0 x1 x2 x3 x4 i : Int} (h : B' i = B i) : fa_bk B' k x0 x1 x2 x3 x4 i = fa_bk B k x0 x1 x2 x3 x4 i := by
  unfold fa_bk fa_up
  rw [h]
theorem fc_note {k w v : Int} {μ1 : pm_Mem} (h : fa_C false 3 n m (N, B) pol μ) (hn : N 3 ≠ 150) (e16 : μ1 16 = fa_bk (μ 16) (N 3) (N 0) (N 1) k w v) (hr : ∀ r, r ≠ 2 → r ≠ 16 → μ1 r = μ r) (e2 : μ1 2 2 = N 3 + 1) : fa_C false 3 n m (fa_note false k w v (N, B)) pol μ1 := by
  rw [fa_note_n (fun c => c.elim (by decide) hn)]
  obtain ⟨hA, hB⟩ := h
  obtain ⟨-, b2⟩ := hB rfl
  obtain ⟨⟨c0, c1, c2, c3, c4⟩, hT, hp⟩ := hA
  refine ⟨⟨⟨?_, ?_, ?_, ?_, ?_⟩, fun q hq' s s0 s1 => ?_, fun c h0 h1 => ?_⟩, fun _ => ⟨?_, fun i i0 i1 => ?_⟩⟩
  · rw [hr 3 (by decide) (by decide)]; exact c0
  · rw [hr 3 (by decide) (by decide)]; exact c1
  · show μ1 3 2 = fa_up N 3 (N 3 + 1) 1
    rw [hr 3 (by decide) (by decide), fa_up_ne (by decide)]
    exact c2
  · show μ1 3 3 = fa_up N 3 (N 3 + 1) 0
    rw [hr 3 (by decide) (by decide), fa_up_ne (by decide)]
    exact c3
  · show μ1 3 4 = fa_up N 3 (N 3 + 1) 2
    rw [hr 3 (by decide) (by decide), fa_up_ne (by decide)]
    exact c4
  · have hb := fa_T_b q hq'
    show μ1 (3 + q.1) s = fa_dec q.2.2.2 (fa_up N 3 (N 3 + 1) (q.2.1 + s))
    rw [hr _ (by omega) (by omega), fa_up_ne (by omega)]
    exact hT q hq' s s0 s1
  · show μ1 (3 + 9) c = pol c
    rw [hr _ (by decide) (by decide)]
    exact hp c h0 h1
  · show μ1 2 2 = fa_up N 3 (N 3 + 1) 3
    rw [fa_up_eq]
    exact e2
  · show μ1 16 i = fa_bk B (N 3) (N 0) (N 1) k w v i
    rw [e16]
    exact fa_bk_cg (b2 i i0 i1)
end FC12
/-! the texts -/
def fa_kd (o c : Int) : Prop := (o = 0 ∧ c = 323) ∨ (o = 1 ∧ c = 306) ∨ (o = 2 ∧ c = 324) ∨ (o = 3 ∧ c = 325)
def fa_cD (n m dn ln : Int) (C D : Int → Int) : Prop := ln = dn ∧ (0 ≤ dn ∧ dn ≤ 16) ∧ (∀ k : Int, 0 ≤ k → k < dn → C (k * 4 + 0) = D (4 * k) ∧ fa_kd (D (4 * k + 1)) (C (k * 4 + 1)) ∧ C (k * 4 + 2) = D (4 * k + 2) ∧ C (k * 4 + 3) = D (4 * k + 3)) ∧ fa_dks n m dn D
def fa_cR (n m rn ln : Int) (C R : Int → Int) : Prop := ln = rn ∧ (0 ≤ rn ∧ rn ≤ 16) ∧ (∀ k : Int, 0 ≤ k → k < rn → C (k * 4 + 0) = R (3 * k) ∧ C (k * 4 + 1) = R (3 * k + 1) ∧ C (k * 4 + 2) = R (3 * k + 2) - 1) ∧ fa_rks n m rn R
def fa_X (ls : List (Int × List zIw × List zIw)) (n m rn dn : Int) (R D : Int → Int) (μ : pm_Mem) : Prop := (fc_L (μ 17 2) (μ 18) (μ 19) 0 ls ∧ μ 17 2 ≤ 16) ∧ fa_cR n m rn (μ 20 2) (μ 21) R ∧ fa_cD n m dn (μ 23 2) (μ 24) D
theorem fa_X_fr {ls : List (Int × List zIw × List zIw)} {n m rn dn : Int} {R D : Int → Int} {μ μ' : pm_Mem} (h : fa_X ls n m rn dn R D μ) (hf : ∀ r, 17 ≤ r → r ≤ 25 → μ' r = μ r) : fa_X ls n m rn dn R D μ' := by
  unfold fa_X
  rw [hf 17 (by decide) (by decide), hf 18 (by decide) (by decide), hf 19 (by decide) (by decide), hf 20 (by decide) (by decide), hf 21 (by decide) (by decide), hf 23 (by decide) (by decide), hf 24 (by decide) (by decide)]
  exact h
theorem fa_X_frL {L : List Nat} {ls : List (Int × List zIw × List zIw)} {n m rn dn : Int} {R D : Int → Int} {μ μ' : pm_Mem} (h : fa_X ls n m rn dn R D μ) (hf : fa_fr L μ μ') (hl : L.all (fun r => Nat.blt r 17 || Nat.blt 25 r) = true) : fa_X ls n m rn dn R D μ' :=
  fa_X_fr h (fun r h1 h2 => hf r (by
    cases hc : L.contains r with
    | false => rfl
    | true =>
      have := List.all_eq_true.mp hl r (by simpa using hc)
      simp only [Bool.or_eq_true, Nat.blt_eq] at this
      omega))
/-! what a buyer pays; none -/
def fa_pay (t : fa_Lw) (pol : Int → Int) (m : Int) (c : Int) (N : Int → Int) : Int := if (0 ≤ c ∧ c < m) ∧ N (106 + c) ≠ 0 ∧ N (40 + (N (106 + c) - 1)) = 0 ∧ N (4 + (N (106 + c) - 1)) ≠ 0 ∧ fa_costs t N pol m c (N (106 + c) - 1) ≤ N (88 + c) then fa_costs t N pol m c (N (106 + c) - 1) else -1
theorem fa_pay_y {t : fa_Lw} {pol : Int → Int} {m c : Int} {N : Int → Int} (h : (0 ≤ c ∧ c < m) ∧ N (106 + c) ≠ 0 ∧ N (40 + (N (106 + c) - 1)) = 0 ∧ N (4 + (N (106 + c) - 1)) ≠ 0 ∧ fa_costs t N pol m c (N (106 + c) - 1) ≤ N (88 + c)) : fa_pay t pol m c N = fa_costs t N pol m c (N (106 + c) - 1) := if_pos h
theorem fa_pay_n {t : fa_Lw} {pol : Int → Int} {m c : Int} {N : Int → Int} (h : ¬ ((0 ≤ c ∧ c < m) ∧ N (106 + c) ≠ 0 ∧ N (40 + (N (106 + c) - 1)) = 0 ∧ N (4 + (N (106 + c) - 1)) ≠ 0 ∧ fa_costs t N pol m c (N (106 + c) - 1) ≤ N (88 + c))) : fa_pay t pol m c N = -1 := if_neg h
theorem fa_pay_e {t : fa_Lw} {pol : Int → Int} {m c : Int} {N : Int → Int} (h : fa_pay t pol m c N ≠ -1) : ((0 ≤ c ∧ c < m) ∧ N (106 + c) ≠ 0 ∧ N (40 + (N (106 + c) - 1)) = 0 ∧ N (4 + (N (106 + c) - 1)) ≠ 0 ∧ fa_costs t N pol m c (N (106 + c) - 1) ≤ N (88 + c)) ∧ fa_pay t pol m c N = fa_costs t N pol m c (N (106 + c) - 1) := by
  unfold fa_pay at h ⊢
  split at h
  · rename_i g
    exact ⟨g, if_pos g⟩
  · exact absurd rfl h
/-- where all who are in a shop are in an open one -/
theorem fa_pay_can {t : fa_Lw} {pol : Int → Int} {m c : Int} {N : Int → Int} (ho : fa_O m N) (hc : 0 ≤ c ∧ c < m) : (fa_pay t pol m c N = -1 ∧ ¬ fa_can t pol m c N = true) ∨ (fa_pay t pol m c N = fa_costs t N pol m c (N (106 + c) - 1) ∧ fa_can t pol m c N = true) := by
  by_cases h : N (106 + c) = 0
  · exact Or.inl ⟨fa_pay_n (fun k => k.2.1 h), fa_can_1 h⟩
  · have h2 := ho c hc.1 hc.2 h
    by_cases h3 : N (4 + (N (106 + c) - 1)) = 0
    · exact Or.inl ⟨fa_pay_n (fun k => k.2.2.2.1 h3), fa_can_2 h3⟩
    · by_cases h4 : fa_costs t N pol m c (N (106 + c) - 1) ≤ N (88 + c)
      · exact Or.inr ⟨fa_pay_y ⟨hc, h, h2, h3, h4⟩, fa_can_y h h3 h4⟩
      · exact Or.inl ⟨fa_pay_n (fun k => h4 k.2.2.2.2), fa_can_3 h4⟩
/-! bits -/
theorem fb_pm {v : Int} (h : 0 ≤ v ∧ v ≤ 262143) : (0 ≤ v - pm_and (pm_ushr v 1) 1431655765 ∧ v - pm_and (pm_ushr v 1) 1431655765 ≤ 262143 ∧ v - pm_and (pm_ushr v 1) 1431655765 = ((fb_1 v.toNat : Nat) : Int)) := by
  have u1 : pm_ushr v 1 = ((v.toNat / 2 : Nat) : Int) := fb_ushr (x := v) (k := 1) (by omega) (by omega) (by decide)
  have c1 : pm_and (pm_ushr v 1) 1431655765 = ((v.toNat / 2 &&& 1431655765 : Nat) : Int) := by
    rw [u1]
    exact fb_a (m := 1431655765) (by omega) (by decide)
  have hl : v.toNat / 2 &&& 1431655765 ≤ v.toNat / 2 := Nat.and_le_left
  have e : fb_1 v.toNat = v.toNat - (v.toNat / 2 &&& 1431655765) := rfl
  rw [c1, e]
  omega
theorem fb_p2 {a : Nat} (h : a ≤ 262143) : pm_and (a : Int) 858993459 + pm_and (pm_ushr (a : Int) 2) 858993459 = ((fb_2 a : Nat) : Int) ∧ fb_2 a ≤ 524286 := by
  have u1 : pm_ushr (a : Int) 2 = ((a / 4 : Nat) : Int) := fb_u (k := 2) (by omega) (by decide)
  have c1 : pm_and (pm_ushr (a : Int) 2) 858993459 = ((a / 4 &&& 858993459 : Nat) : Int) := by
    rw [u1]
    exact fb_a (m := 858993459) (by omega) (by decide)
  have c0 : pm_and (a : Int) 858993459 = ((a &&& 858993459 : Nat) : Int) := fb_a (m := 858993459) (by omega) (by decide)
  have h1 : a / 4 &&& 858993459 ≤ a / 4 := Nat.and_le_left
  have h2 : a &&& 858993459 ≤ a := Nat.and_le_left
  have e : fb_2 a = (a &&& 858993459) + (a / 4 &&& 858993459) := rfl
  rw [c1, c0, e]
  omega
theorem fb_p3 {a : Nat} (h : a ≤ 524286) : (pm_ushr (a : Int) 4 = ((a / 16 : Nat) : Int)) ∧ pm_and ((a : Int) + pm_ushr (a : Int) 4) 252645135 = ((fb_3 a : Nat) : Int) ∧ fb_3 a ≤ 600000 := by
  have u1 : pm_ushr (a : Int) 4 = ((a / 16 : Nat) : Int) := fb_u (k := 4) (by omega) (by decide)
  have h1 : a + a / 16 &&& 252645135 ≤ a + a / 16 := Nat.and_le_left
  have e : fb_3 a = (a + a / 16) &&& 252645135 := rfl
  refine ⟨u1, ?_, by rw [e]; omega⟩
  rw [u1, e, ← fb_a (m := 252645135) (by omega) (by decide), Int.natCast_add]
  rfl
theorem fb_p4 {a : Nat} (h : a ≤ 600000) : (a : Int) + pm_ushr (a : Int) 8 = ((fb_4 a : Nat) : Int) ∧ fb_4 a ≤ 700000 := by
  have u1 : pm_ushr (a : Int) 8 = ((a / 256 : Nat) : Int) := fb_u (k := 8) (by omega) (by decide)
  have e : fb_4 a = a + a / 256 := rfl
  rw [u1, e]
  omega
theorem fb_p5 {a : Nat} (h : a ≤ 700000) : (a : Int) + pm_ushr (a : Int) 16 = ((fb_5 a : Nat) : Int) ∧ fb_5 a ≤ 800000 := by
  have u1 : pm_ushr (a : Int) 16 = ((a / 65536 : Nat) : Int) := fb_u (k := 16) (by omega) (by decide)
  have e : fb_5 a = a + a / 65536 := rfl
  rw [u1, e]
  omega
theorem fb_p6 {a : Nat} (h : a ≤ 800000) : pm_and (a : Int) 63 = ((a &&& 63 : Nat) : Int) := fb_a (m := 63) (by omega) (by decide)
theorem fa_C_m {th : Bool} {a : Nat} {n m : Int} {N N' B pol : Int → Int} {μ μ' : pm_Mem} (h : fa_C th a n m (N, B) pol μ) (hA : fa_A a n m N' pol μ') (e2 : μ' 2 = μ 2) (e16 : μ' 16 = μ 16) (e3 : N' 3 = N 3) : fa_C th a n m (N', B) pol μ' := ⟨hA, fun e => fa_B_n (fa_B_fr (h.2 e) e2 e16) e3⟩
theorem fa_soN_3 {th : Bool} {o : Int} {N : Int → Int} : fa_soN th o N 3 = N 3 := fa_soN_ne (by decide)
theorem fc_cD {n m dn ln : Int} {C D : Int → Int} (h : fa_cD n m dn ln C D) {k : Int} (h0 : 0 ≤ k) (h1 : k < ln) : C (k * 4 + 0) = D (4 * k) ∧ fa_kd (D (4 * k + 1)) (C (k * 4 + 1)) ∧ C (k * 4 + 2) = D (4 * k + 2) ∧ C (k * 4 + 3) = D (4 * k + 3) ∧ fa_dk n m (D (4 * k + 1)) (D (4 * k + 2)) (D (4 * k + 3)) := by
  obtain ⟨e, -, a, b⟩ := h
  obtain ⟨p, q, r, s⟩ := a k h0 (by omega)
  exact ⟨p, q, r, s, b k h0 (by omega)⟩
theorem fc_cR {n m rn ln : Int} {C R : Int → Int} (h : fa_cR n m rn ln C R) {k : Int} (h0 : 0 ≤ k) (h1 : k < ln) : C (k * 4 + 0) = R (3 * k) ∧ C (k * 4 + 1) = R (3 * k + 1) ∧ C (k * 4 + 2) = R (3 * k + 2) - 1 ∧ (0 ≤ R (3 * k) ∧ R (3 * k) < m) ∧ (0 ≤ R (3 * k + 1) ∧ R (3 * k + 1) ≤ 11) ∧ (0 ≤ R (3 * k + 2) ∧ R (3 * k + 2) ≤ n) := by
  obtain ⟨e, -, a, b⟩ := h
  obtain ⟨p, q, r⟩ := a k h0 (by omega)
  obtain ⟨s, t, u⟩ := b k h0 (by omega)
  exact ⟨p, q, r, s, t, u⟩
theorem fa_deed_kd {th : Bool} {o c a b : Int} {N B : Int → Int} (h : fa_kd o c) : (c = 323 → fa_deed th o a b (N, B) = (fa_up N (4 + a) b, B)) ∧ (c = 306 → fa_deed th o a b (N, B) = (fa_up N (16 + a) b, B)) ∧ (c = 324 → fa_deed th o a b (N, B) = (fa_up N (88 + a) (min 9999 (N (88 + a) + b)), B)) ∧ (c ≠ 323 → c ≠ 306 → c ≠ 324 → o = 3) := by
  rcases h with ⟨h1, h2⟩ | ⟨h1, h2⟩ | ⟨h1, h2⟩ | ⟨h1, h2⟩
  · exact ⟨fun _ => fa_deed_0 h1, fun c => by omega, fun c => by omega, fun c => absurd h2 c⟩
  · exact ⟨fun c => by omega, fun _ => fa_deed_1 h1, fun c => by omega, fun _ c => absurd h2 c⟩
  · exact ⟨fun c => by omega, fun c => by omega, fun _ => fa_deed_2 h1, fun _ _ c => absurd h2 c⟩
  · exact ⟨fun c => by omega, fun c => by omega, fun c => by omega, fun _ _ _ => h1⟩
theorem fa_kd_o {n m o c a b : Int} (h : fa_kd o c) (hd : fa_dk n m o a b) : (c = 324 → (0 ≤ a ∧ a < m) ∧ 0 ≤ b ∧ b ≤ 999) ∧ (c ≠ 324 → 0 ≤ a ∧ a < n) ∧ (c = 323 → 0 ≤ b ∧ b ≤ 99) ∧ (c = 306 → 0 ≤ b ∧ b ≤ 99) ∧ (c ≠ 323 → c ≠ 306 → c ≠ 324 → 0 ≤ b ∧ b < m) := by
  obtain ⟨d0, d1, d2, d3⟩ := hd
  rcases h with ⟨h1, h2⟩ | ⟨h1, h2⟩ | ⟨h1, h2⟩ | ⟨h1, h2⟩
  · obtain ⟨e1, e2⟩ := d0 h1
    exact ⟨fun c => by omega, fun _ => e1, fun _ => e2, fun c => by omega, fun c => absurd h2 c⟩
  · obtain ⟨e1, e2⟩ := d1 h1
    exact ⟨fun c => by omega, fun _ => e1, fun c => by omega, fun _ => e2, fun _ c => absurd h2 c⟩
  · obtain ⟨e1, e2⟩ := d2 h1
    exact ⟨fun _ => ⟨e1, e2⟩, fun c => absurd h2 c, fun c => by omega, fun c => by omega, fun _ _ c => absurd h2 c⟩
  · obtain ⟨e1, e2⟩ := d3 (by omega) (by omega) (by omega)
    exact ⟨fun c => by omega, fun _ => e1, fun c => by omega, fun c => by omega, fun _ _ _ => e2⟩
theorem fa_deeds_m {th : Bool} {D : Int → Int} {k : Nat} {S S' : fa_St} (hS : S' = fa_deeds th D k S) (h : D (4 * (k : Int)) = S'.1 0) : fa_deeds th D (k + 1) S = fa_deed th (D (4 * (k : Int) + 1)) (D (4 * (k : Int) + 2)) (D (4 * (k : Int) + 3)) S' := by
  subst hS
  exact fa_deeds_y h
theorem fa_deeds_z {th : Bool} {D : Int → Int} {k : Nat} {S S' : fa_St} (hS : S' = fa_deeds th D k S) (h : ¬ D (4 * (k : Int)) = S'.1 0) : fa_deeds th D (k + 1) S = S' := by
  subst hS
  exact fa_deeds_n h
theorem fa_fr_2 {L : List Nat} {μ μ' : pm_Mem} {p q : Nat} (h : ∀ r, r ≠ p → r ≠ q → μ' r = μ r) (hp : L.contains p = true) (hq : L.contains q = true) : fa_fr L μ μ' := fun r hr => h r (fun e => by rw [e, hp] at hr; cases hr) (fun e => by rw [e, hq] at hr; cases hr)
theorem fa_fr_3 {L : List Nat} {μ μ' : pm_Mem} {p q s : Nat} (h : ∀ r, r ≠ p → r ≠ q → r ≠ s → μ' r = μ r) (hp : L.contains p = true) (hq : L.contains q = true) (hs : L.contains s = true) : fa_fr L μ μ' := fun r hr => h r (fun e => by rw [e, hp] at hr; cases hr) (fun e => by rw [e, hq] at hr; cases hr) (fun e => by rw [e, hs] at hr; cases hr)
theorem fa_fr_1 {L : List Nat} {μ μ' : pm_Mem} {p : Nat} (h : ∀ r, r ≠ p → μ' r = μ r) (hp : L.contains p = true) : fa_fr L μ μ' := fun r hr => h r (fun e => by rw [e, hp] at hr; cases hr)
theorem fa_opens_lo {N : Int → Int} : ∀ (k : Nat) {i : Int}, i < 40 → fa_opens N k i = N i
  | 0, _, _ => rfl
  | k + 1, i, h => by
    rw [fa_opens_s, fa_up_ne (by omega), fa_up_ne (by omega), fa_up_ne (by omega)]
    exact fa_opens_lo k h
/-- who shuts, or nobody -/
theorem fa_shut_o0 {th : Bool} {t : fa_Lw} {pol N B : Int → Int} {m s c : Int} (h : N (52 + s) = 0) (hc : c = -1) : fa_shut th t pol m s (N, B) = fa_one th c s (N, B) := (fa_shut_0 h).trans (fa_one_y hc).symm
theorem fa_shut_o1 {th : Bool} {t : fa_Lw} {pol N B : Int → Int} {m s c : Int} (h : N (52 + s) ≠ 0) (hso : ¬ fa_so th (fa_yields t N pol m (N (52 + s) - 1) s) N = true) (hc : c = N (52 + s) - 1) : fa_shut th t pol m s (N, B) = fa_one th c s (fa_soN th (fa_yields t N pol m (N (52 + s) - 1) s) N, B) := by
  rw [hc]
  exact (fa_shut_n h hso).trans (fa_one_n (by omega)).symm
theorem fa_shut_o2 {th : Bool} {t : fa_Lw} {pol N B N1 B1 : Int → Int} {m s c : Int} (h : N (52 + s) ≠ 0) (hso : fa_so th (fa_yields t N pol m (N (52 + s) - 1) s) N = true) (e : (N1, B1) = fa_note th 2 (N (52 + s) - 1) s (fa_soN th (fa_yields t N pol m (N (52 + s) - 1) s) N, B)) (hc : c = N1 (64 + s) - 1) : fa_shut th t pol m s (N, B) = fa_one th c s (N1, B1) := by
  rw [hc]
  exact fa_shut_y h hso e
