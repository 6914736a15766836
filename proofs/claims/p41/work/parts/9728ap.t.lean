/-! F: thought leaves THE BOOK alone; sums over a row -/
section
variable {t : fa_Lw} {pol : Int → Int} {R D : Int → Int} {rn dn n m : Int}
theorem fa_note_t {k w v : Int} {S : fa_St} : fa_note true k w v S = S := if_pos (Or.inl rfl)
theorem fa_bought_t {c s v : Int} {S : fa_St} : (fa_bought true c s v S).2 = S.2 := by
  unfold fa_bought
  simp only [fa_note_t]
theorem fa_deed_t {k a b : Int} {S : fa_St} : (fa_deed true k a b S).2 = S.2 := by
  unfold fa_deed
  rw [fa_note_t]
  split
  · rfl
  · split
    · rfl
    · split
      · rfl
      · split <;> rfl
theorem fa_deeds_t : ∀ (k : Nat) {S : fa_St}, (fa_deeds true D k S).2 = S.2
  | 0, _ => rfl
  | k + 1, S => by
    have ih := fa_deeds_t k (S := S)
    show (if D (4 * (k : Int)) = (fa_deeds true D k S).1 0 then fa_deed true (D (4 * (k : Int) + 1)) (D (4 * (k : Int) + 2)) (D (4 * (k : Int) + 3)) (fa_deeds true D k S) else fa_deeds true D k S).2 = S.2
    split
    · rw [fa_deed_t]; exact ih
    · exact ih
theorem fa_turn_t {c : Int} {S : fa_St} : (fa_turn true t pol m c S).2 = S.2 := by
  unfold fa_turn
  split
  · split
    · rw [fa_bought_t]
    · rfl
  · rfl
theorem fa_turns_t : ∀ (k : Nat) {S : fa_St}, (fa_turns true t pol m k S).2 = S.2
  | 0, _ => rfl
  | k + 1, S => (fa_turn_t (c := (k : Int)) (S := fa_turns true t pol m k S)).trans (fa_turns_t k)
theorem fa_one_t {c s : Int} {S : fa_St} : (fa_one true c s S).2 = S.2 := by
  unfold fa_one fa_stays fa_pole
  rw [fa_note_t, fa_note_t]
  split <;> rfl
theorem fa_shut_t {s : Int} {S : fa_St} : (fa_shut true t pol m s S).2 = S.2 := by
  unfold fa_shut
  split
  · unfold fa_stays
    rw [fa_note_t]
  · split
    · rw [fa_note_t]
      exact fa_one_t
    · unfold fa_pole
      rw [fa_note_t]
theorem fa_shuts_t : ∀ (k : Nat) {S : fa_St}, (fa_shuts true t pol m k S).2 = S.2
  | 0, _ => rfl
  | k + 1, S => (fa_shut_t (s := (k : Int)) (S := fa_shuts true t pol m k S)).trans (fa_shuts_t k)
theorem fa_hour_t {S : fa_St} : (fa_hour true t R D pol rn dn n m S).2 = S.2 := by
  have h1 : (fa_turns true t pol m m.toNat (fa_to true R D rn dn n S)).2 = S.2 := by
    rw [fa_turns_t]
    show (fa_morn true D dn n S).2 = S.2
    unfold fa_morn
    split
    · exact fa_deeds_t _
    · rfl
  show (if (fa_turns true t pol m m.toNat (fa_to true R D rn dn n S)).1 1 = 11 then fa_eve true t pol n m (fa_turns true t pol m m.toNat (fa_to true R D rn dn n S)) else (fa_up (fa_turns true t pol m m.toNat (fa_to true R D rn dn n S)).1 1 ((fa_turns true t pol m m.toNat (fa_to true R D rn dn n S)).1 1 + 1), (fa_turns true t pol m m.toNat (fa_to true R D rn dn n S)).2)).2 = S.2
  split
  · exact (fa_shuts_t n.toNat).trans h1
  · exact h1
theorem fa_tho_t : ∀ (k : Nat) {S : fa_St}, (fa_tho t R D pol rn dn n m k S).2 = S.2
  | 0, _ => rfl
  | k + 1, S => (fa_hour_t (S := fa_tho t R D pol rn dn n m k S)).trans (fa_tho_t k)
end
theorem pm_w32_id {x : Int} (h1 : -2147483648 ≤ x) (h2 : x ≤ 2147483647) : pm_w32 x = x := pm_of32 ⟨h1, h2⟩
theorem fa_add_in {N : Int → Int} {b : Int} : ∀ k : Nat, -2147483648 ≤ fa_add N b k ∧ fa_add N b k ≤ 2147483647
  | 0 => ⟨(show (-2147483648 : Int) ≤ 0 by decide), (show (0 : Int) ≤ 2147483647 by decide)⟩
  | _ + 1 => zw32 _
theorem fa_add_cn {F N : Int → Int} {a b : Int} : ∀ k : Nat, (∀ i : Int, 0 ≤ i → i < (k : Int) → F (a + i) = N (b + i)) → fa_add F a k = fa_add N b k
  | 0, _ => rfl
  | k + 1, h => by
    rw [fa_add_s, fa_add_s, fa_add_cn k (fun i i0 i1 => h i i0 (by omega)), h (k : Int) (by omega) (by omega)]
theorem fa_add_cg {F N : Int → Int} {b k : Int} (h : ∀ i : Int, 0 ≤ i → i < k → F i = N (b + i)) (hk : 0 ≤ k) : fa_add F 0 k.toNat = fa_add N b k.toNat := fa_add_cn _ (fun i i0 i1 => by
  rw [Int.zero_add]
  exact h i i0 (by omega))
theorem fa_add_on {F N : Int → Int} : ∀ k : Nat, k ≤ 12 → (∀ i : Int, 0 ≤ i → i < (k : Int) → F i = 1 - N (40 + i) ∧ 0 ≤ N (40 + i) ∧ N (40 + i) ≤ 1) → fa_add F 0 k = (k : Int) - fa_add N 40 k ∧ 0 ≤ fa_add N 40 k ∧ fa_add N 40 k ≤ (k : Int)
  | 0, _, _ => ⟨(show (0 : Int) = 0 - 0 by decide), (show (0 : Int) ≤ 0 by decide), (show (0 : Int) ≤ 0 by decide)⟩
  | k + 1, hk, h => by
    obtain ⟨h1, h2, h3⟩ := fa_add_on (F := F) (N := N) k (by omega) (fun i i0 i1 => h i i0 (by omega))
    obtain ⟨e1, e2, e3⟩ := h (k : Int) (by omega) (by omega)
    rw [fa_add_s, fa_add_s, Int.zero_add, e1, h1, pm_w32_id (by omega) (by omega), pm_w32_id (by omega) (by omega)]
    omega
def fa_tog (n m : Int) (N : Int → Int) (w : Int) : Int := if w = 0 then fa_add N 28 n.toNat else if w = 1 then fa_add N 4 n.toNat else if w = 2 then fa_add N 124 m.toNat else fa_add N 40 n.toNat
section
variable {n m : Int} {N : Int → Int}
theorem fa_tog_0 : fa_tog n m N 0 = fa_add N 28 n.toNat := if_pos rfl
theorem fa_tog_1 : fa_tog n m N 1 = fa_add N 4 n.toNat := (if_neg (by decide)).trans (if_pos rfl)
theorem fa_tog_2 : fa_tog n m N 2 = fa_add N 124 m.toNat := (if_neg (by decide)).trans ((if_neg (by decide)).trans (if_pos rfl))
theorem fa_tog_3 : fa_tog n m N 3 = fa_add N 40 n.toNat := (if_neg (by decide)).trans ((if_neg (by decide)).trans (if_neg (by decide)))
end
