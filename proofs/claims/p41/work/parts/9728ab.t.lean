/-! F: small ones about the functions of f1 -/
theorem fa_note_y {th : Bool} {k w v : Int} {N B : Int → Int} (h : th = true ∨ N 3 = 150) : fa_note th k w v (N, B) = (N, B) := if_pos h
theorem fa_note_n {th : Bool} {k w v : Int} {N B : Int → Int} (h : ¬ (th = true ∨ N 3 = 150)) : fa_note th k w v (N, B) = (fa_up N 3 (N 3 + 1), fa_bk B (N 3) (N 0) (N 1) k w v) := if_neg h
theorem fa_last_y {N : Int → Int} {c s : Int} (h : N (52 + s) = c + 1) : fa_last N c s = N := if_pos h
theorem fa_last_n {N : Int → Int} {c s : Int} (h : N (52 + s) ≠ c + 1) : fa_last N c s = fa_up (fa_up N (64 + s) (N (52 + s))) (52 + s) (c + 1) := if_neg h
/-- who is told of: is it a thought -/
def fa_th (th : Bool) (μ : pm_Mem) : Prop := th = true ↔ μ 205 5 ≠ 0
theorem fa_th_r {th : Bool} {μ μ' : pm_Mem} (h : fa_th th μ) (e : μ' 205 = μ 205) : fa_th th μ' := by
  unfold fa_th
  rw [e]
  exact h
/-! whether it comes so -/
theorem fa_so_ty {th : Bool} {o : Int} {N : Int → Int} (h : th = true) (ho : 500 ≤ o) : fa_so th o N = true := by
  unfold fa_so
  rw [if_pos h]
  exact decide_eq_true ho
theorem fa_so_tn {th : Bool} {o : Int} {N : Int → Int} (h : th = true) (ho : ¬ 500 ≤ o) : ¬ fa_so th o N = true := by
  unfold fa_so
  rw [if_pos h, decide_eq_false ho]
  decide
theorem fa_so_0 {th : Bool} {o : Int} {N : Int → Int} (h : ¬ th = true) (ho : ¬ 0 < o) : ¬ fa_so th o N = true := by
  unfold fa_so
  rw [if_neg h, decide_eq_false ho, Bool.false_and]
  decide
theorem fa_so_y {th : Bool} {o : Int} {N : Int → Int} (h : ¬ th = true) (h0 : 0 < o) (hd : fa_dr N 1000 < o) : fa_so th o N = true := by
  unfold fa_so
  rw [if_neg h, decide_eq_true h0, decide_eq_true hd]
  rfl
theorem fa_so_n {th : Bool} {o : Int} {N : Int → Int} (h : ¬ th = true) (hd : ¬ fa_dr N 1000 < o) : ¬ fa_so th o N = true := by
  unfold fa_so
  rw [if_neg h, decide_eq_false hd, Bool.and_false]
  decide
theorem fa_soN_t {th : Bool} {o : Int} {N : Int → Int} (h : th = true ∨ o ≤ 0) : fa_soN th o N = N := if_pos h
theorem fa_soN_n {th : Bool} {o : Int} {N : Int → Int} (h : ¬ th = true) (ho : 0 < o) : fa_soN th o N = fa_draw N := if_neg (fun c => c.elim h (fun c => by omega))
theorem fa_b1 {b : Bool} (h : (if b = true then (1 : Int) else 0) ≠ 0) : b = true := by
  cases b with
  | true => rfl
  | false => exact absurd (if_neg (by decide)) h
theorem fa_b0 {b : Bool} (h : (if b = true then (1 : Int) else 0) = 0) : ¬ b = true := fun c => by
  rw [if_pos c] at h
  exact absurd h (by decide)
/-! an errand -/
theorem fa_deed_0 {th : Bool} {k a b : Int} {N B : Int → Int} (h : k = 0) : fa_deed th k a b (N, B) = (fa_up N (4 + a) b, B) := if_pos h
theorem fa_deed_1 {th : Bool} {k a b : Int} {N B : Int → Int} (h : k = 1) : fa_deed th k a b (N, B) = (fa_up N (16 + a) b, B) := (if_neg (by omega)).trans (if_pos h)
theorem fa_deed_2 {th : Bool} {k a b : Int} {N B : Int → Int} (h : k = 2) : fa_deed th k a b (N, B) = (fa_up N (88 + a) (min 9999 (N (88 + a) + b)), B) := (if_neg (by omega)).trans ((if_neg (by omega)).trans (if_pos h))
theorem fa_deed_z {th : Bool} {k a b : Int} {N B : Int → Int} (h : k ≠ 0 ∧ k ≠ 1 ∧ k ≠ 2) (hz : N (4 + a) = 0) : fa_deed th k a b (N, B) = (N, B) := (if_neg h.1).trans ((if_neg h.2.1).trans ((if_neg h.2.2).trans (if_pos hz)))
theorem fa_deed_n {th : Bool} {k a b : Int} {N B : Int → Int} (h : k ≠ 0 ∧ k ≠ 1 ∧ k ≠ 2) (hz : N (4 + a) ≠ 0) : fa_deed th k a b (N, B) = fa_note th 1 b a (fa_thing N b a, B) := (if_neg h.1).trans ((if_neg h.2.1).trans ((if_neg h.2.2).trans (if_neg hz)))
/-- the first errands of the day -/
theorem fa_deeds_y {th : Bool} {D : Int → Int} {k : Nat} {S : fa_St} (h : D (4 * (k : Int)) = (fa_deeds th D k S).1 0) : fa_deeds th D (k + 1) S = fa_deed th (D (4 * (k : Int) + 1)) (D (4 * (k : Int) + 2)) (D (4 * (k : Int) + 3)) (fa_deeds th D k S) := if_pos h
theorem fa_deeds_n {th : Bool} {D : Int → Int} {k : Nat} {S : fa_St} (h : ¬ D (4 * (k : Int)) = (fa_deeds th D k S).1 0) : fa_deeds th D (k + 1) S = fa_deeds th D k S := if_neg h
theorem fa_opens_s {N : Int → Int} {k : Nat} : fa_opens N (k + 1) = fa_up (fa_up (fa_up (fa_opens N k) (40 + (k : Int)) 0) (52 + (k : Int)) 0) (64 + (k : Int)) 0 := rfl
theorem fa_outs_s {N : Int → Int} {k : Nat} : fa_outs N (k + 1) = fa_up (fa_outs N k) (106 + (k : Int)) 0 := rfl
