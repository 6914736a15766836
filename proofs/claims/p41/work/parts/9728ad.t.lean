/-! F: a shop's evening, a turn, by cases (behind f1, f2) -/
theorem fa_held_b {x hi : Int} (h : 0 ≤ hi) : 0 ≤ fa_held x 0 hi ∧ fa_held x 0 hi ≤ hi := by
  unfold fa_held
  by_cases h1 : x < 0
  · rw [if_pos h1]
    omega
  · rw [if_neg h1]
    by_cases h2 : hi < x
    · rw [if_pos h2]
      omega
    · rw [if_neg h2]
      omega
theorem fa_buys_b {t : fa_Lw} {N pol : Int → Int} {m c s : Int} : 0 ≤ fa_buys t N pol m c s ∧ fa_buys t N pol m c s ≤ 1000 := fa_held_b (by decide)
theorem fa_yields_b {t : fa_Lw} {N pol : Int → Int} {m c s : Int} : 0 ≤ fa_yields t N pol m c s ∧ fa_yields t N pol m c s ≤ 1000 := fa_held_b (by decide)
theorem fa_costs_b {t : fa_Lw} {N pol : Int → Int} {m c s : Int} : 0 ≤ fa_costs t N pol m c s ∧ fa_costs t N pol m c s ≤ 999 := fa_held_b (by decide)
section FA7
variable {th : Bool} {t : fa_Lw} {pol N B N1 B1 : Int → Int} {m c s : Int}
theorem fa_one_y (h : c = -1) : fa_one th c s (N, B) = fa_stays th s (N, B) := if_pos h
theorem fa_one_n (h : c ≠ -1) : fa_one th c s (N, B) = fa_pole th c s (N, B) := if_neg h
theorem fa_shut_0 (h : N (52 + s) = 0) : fa_shut th t pol m s (N, B) = fa_stays th s (N, B) := if_pos h
theorem fa_shut_n (h : N (52 + s) ≠ 0) (hso : ¬ fa_so th (fa_yields t N pol m (N (52 + s) - 1) s) N = true) : fa_shut th t pol m s (N, B) = fa_pole th (N (52 + s) - 1) s (fa_soN th (fa_yields t N pol m (N (52 + s) - 1) s) N, B) := (if_neg h).trans (if_neg hso)
theorem fa_shut_y (h : N (52 + s) ≠ 0) (hso : fa_so th (fa_yields t N pol m (N (52 + s) - 1) s) N = true) (e : (N1, B1) = fa_note th 2 (N (52 + s) - 1) s (fa_soN th (fa_yields t N pol m (N (52 + s) - 1) s) N, B)) : fa_shut th t pol m s (N, B) = fa_one th (N1 (64 + s) - 1) s (N1, B1) := by
  have h1 : fa_shut th t pol m s (N, B) = (fun S1 : fa_St => fa_one th (S1.1 (64 + s) - 1) s S1) (fa_note th 2 (N (52 + s) - 1) s (fa_soN th (fa_yields t N pol m (N (52 + s) - 1) s) N, B)) := (if_neg h).trans (if_pos hso)
  exact h1.trans (congrArg (fun S1 : fa_St => fa_one th (S1.1 (64 + s) - 1) s S1) e.symm)
theorem fa_shuts_s {k : Nat} {S : fa_St} : fa_shuts th t pol m (k + 1) S = fa_shut th t pol m (k : Int) (fa_shuts th t pol m k S) := rfl
theorem fa_turns_s {k : Nat} {S : fa_St} : fa_turns th t pol m (k + 1) S = fa_turn th t pol m (k : Int) (fa_turns th t pol m k S) := rfl
theorem fa_eve_e {n : Int} {S : fa_St} (h : (N, B) = fa_shuts th t pol m n.toNat S) : fa_eve th t pol n m S = (fa_up (fa_up (fa_outs N m.toNat) 1 0) 0 (pm_w32 (fa_outs N m.toNat 0 + 1)), B) :=
  congrArg (fun S1 : fa_St => (fun N1 : Int → Int => ((fa_up (fa_up N1 1 0) 0 (pm_w32 (N1 0 + 1)), S1.2) : fa_St)) (fa_outs S1.1 m.toNat)) h.symm
end FA7
