/-! F: an hour, by cases (behind f7) -/
theorem fa_rounds_y {R N : Int → Int} {k : Nat} (h : R (3 * (k : Int) + 1) = fa_rounds R N k 1 ∧ (R (3 * (k : Int) + 2) = 0 ∨ fa_rounds R N k (40 + (R (3 * (k : Int) + 2) - 1)) = 0)) : fa_rounds R N (k + 1) = fa_up (fa_rounds R N k) (106 + R (3 * (k : Int))) (R (3 * (k : Int) + 2)) := if_pos h
theorem fa_rounds_n {R N : Int → Int} {k : Nat} (h : ¬ (R (3 * (k : Int) + 1) = fa_rounds R N k 1 ∧ (R (3 * (k : Int) + 2) = 0 ∨ fa_rounds R N k (40 + (R (3 * (k : Int) + 2) - 1)) = 0))) : fa_rounds R N (k + 1) = fa_rounds R N k := if_neg h
theorem fa_draw_ne {N : Int → Int} {i : Int} (h : i ≠ 2) : fa_draw N i = N i := fa_up_ne h
theorem fa_soN_ne {th : Bool} {o i : Int} {N : Int → Int} (h : i ≠ 2) : fa_soN th o N i = N i := by
  unfold fa_soN
  by_cases c : th = true ∨ o ≤ 0
  · rw [if_pos c]
  · rw [if_neg c, fa_draw_ne h]
section FA8
variable {th : Bool} {t : fa_Lw} {pol N B D : Int → Int} {m c n dn : Int}
theorem fa_can_y (h1 : N (106 + c) ≠ 0) (h2 : N (4 + (N (106 + c) - 1)) ≠ 0) (h3 : fa_costs t N pol m c (N (106 + c) - 1) ≤ N (88 + c)) : fa_can t pol m c N = true := by
  unfold fa_can
  rw [decide_eq_true h1, decide_eq_true h2, decide_eq_true h3]
  rfl
theorem fa_can_1 (h1 : N (106 + c) = 0) : ¬ fa_can t pol m c N = true := by
  unfold fa_can
  rw [decide_eq_false (fun k => k h1), Bool.false_and, Bool.false_and]
  decide
theorem fa_can_2 (h2 : N (4 + (N (106 + c) - 1)) = 0) : ¬ fa_can t pol m c N = true := by
  unfold fa_can
  rw [decide_eq_false (fun k : ¬ N (4 + (N (106 + c) - 1)) = 0 => k h2), Bool.and_false, Bool.false_and]
  decide
theorem fa_can_3 (h3 : ¬ fa_costs t N pol m c (N (106 + c) - 1) ≤ N (88 + c)) : ¬ fa_can t pol m c N = true := by
  unfold fa_can
  rw [decide_eq_false h3, Bool.and_false]
  decide
theorem fa_turn_0 (h : ¬ fa_can t pol m c N = true) : fa_turn th t pol m c (N, B) = (N, B) ∧ fa_did th t pol m c (N, B) = 0 := by
  refine ⟨if_neg h, ?_⟩
  have e : fa_can t pol m c (N, B).1 = false := Bool.eq_false_iff.mpr h
  unfold fa_did
  rw [e, Bool.false_and]
  rfl
theorem fa_turn_n (h : fa_can t pol m c N = true) (hs : ¬ fa_so th (fa_buys t N pol m c (N (106 + c) - 1)) N = true) : fa_turn th t pol m c (N, B) = (fa_soN th (fa_buys t N pol m c (N (106 + c) - 1)) N, B) ∧ fa_did th t pol m c (N, B) = 0 := by
  refine ⟨(if_pos h).trans (if_neg hs), ?_⟩
  have e : fa_so th (fa_buys t (N, B).1 pol m c ((N, B).1 (106 + c) - 1)) (N, B).1 = false := Bool.eq_false_iff.mpr hs
  unfold fa_did
  rw [e, Bool.and_false]
  rfl
theorem fa_turn_y (h : fa_can t pol m c N = true) (hs : fa_so th (fa_buys t N pol m c (N (106 + c) - 1)) N = true) : fa_turn th t pol m c (N, B) = fa_bought th c (N (106 + c) - 1) (fa_costs t N pol m c (N (106 + c) - 1)) (fa_soN th (fa_buys t N pol m c (N (106 + c) - 1)) N, B) ∧ fa_did th t pol m c (N, B) = 1 := by
  refine ⟨(if_pos h).trans (if_pos hs), ?_⟩
  have e : (fa_can t pol m c (N, B).1 && fa_so th (fa_buys t (N, B).1 pol m c ((N, B).1 (106 + c) - 1)) (N, B).1) = true := by
    rw [Bool.and_eq_true]
    exact ⟨h, hs⟩
  exact if_pos e
theorem fa_dids_s {k : Nat} {S : fa_St} : fa_dids th t pol m (k + 1) S = fa_dids th t pol m k S + fa_did th t pol m (k : Int) (fa_turns th t pol m k S) := rfl
theorem fa_morn_y (h : N 1 = 0) : fa_morn th D dn n (N, B) = fa_deeds th D dn.toNat (fa_opens N n.toNat, B) := if_pos h
theorem fa_morn_n (h : N 1 ≠ 0) : fa_morn th D dn n (N, B) = (N, B) := if_neg h
theorem fr_tu {q d : Int} {S S' : fa_St} (hq : q = fa_dids th t pol m c.toNat S) (hc : 0 ≤ c) (hn : (N, B) = fa_turns th t pol m c.toNat S) (ht : fa_turn th t pol m c (N, B) = S' ∧ fa_did th t pol m c (N, B) = d) : q + d = fa_dids th t pol m (c + 1).toNat S ∧ S' = fa_turns th t pol m (c + 1).toNat S := by
  have e : (c + 1).toNat = c.toNat + 1 := by omega
  have ec : ((c.toNat : Nat) : Int) = c := by omega
  rw [e, fa_dids_s, fa_turns_s, ec, ← hn, ht.1, ht.2, hq]
  exact ⟨rfl, rfl⟩
end FA8
/-- the hour's end -/
def fa_end (th : Bool) (t : fa_Lw) (pol : Int → Int) (n m : Int) (S1 : fa_St) : fa_St := if S1.1 1 = 11 then fa_eve th t pol n m S1 else (fa_up S1.1 1 (S1.1 1 + 1), S1.2)
theorem fa_end_y {th : Bool} {t : fa_Lw} {pol N B : Int → Int} {n m : Int} (h : N 1 = 11) : fa_end th t pol n m (N, B) = fa_eve th t pol n m (N, B) := if_pos h
theorem fa_end_n {th : Bool} {t : fa_Lw} {pol N B : Int → Int} {n m : Int} (h : N 1 ≠ 11) : fa_end th t pol n m (N, B) = (fa_up N 1 (N 1 + 1), B) := if_neg h
theorem fa_hour_e {th : Bool} {t : fa_Lw} {R D pol : Int → Int} {rn dn n m : Int} {S : fa_St} : fa_hour th t R D pol rn dn n m S = fa_end th t pol n m (fa_turns th t pol m m.toNat (fa_to th R D rn dn n S)) := rfl
