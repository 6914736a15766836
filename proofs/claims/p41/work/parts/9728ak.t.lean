/-! F: what a row holds to, whatever is done to it (behind f8) -/
/-- ranges: the hour; goods, prices, open, last, before; purses, where they are -/
def fa_I (n m : Int) (N : Int → Int) : Prop := (0 ≤ N 1 ∧ N 1 ≤ 11) ∧ (∀ s : Int, 0 ≤ s → s < n → (0 ≤ N (4 + s) ∧ N (4 + s) ≤ 99) ∧ (0 ≤ N (16 + s) ∧ N (16 + s) ≤ 99) ∧ (0 ≤ N (40 + s) ∧ N (40 + s) ≤ 1) ∧ (0 ≤ N (52 + s) ∧ N (52 + s) ≤ m) ∧ (0 ≤ N (64 + s) ∧ N (64 + s) ≤ m)) ∧ (∀ c : Int, 0 ≤ c → c < m → (0 ≤ N (88 + c) ∧ N (88 + c) ≤ 9999) ∧ (0 ≤ N (106 + c) ∧ N (106 + c) ≤ n))
/-- what may come to a place -/
def fa_Iv (n m j v : Int) : Prop := (j = 1 → 0 ≤ v ∧ v ≤ 11) ∧ (4 ≤ j → j < 16 → 0 ≤ v ∧ v ≤ 99) ∧ (16 ≤ j → j < 28 → 0 ≤ v ∧ v ≤ 99) ∧ (40 ≤ j → j < 52 → 0 ≤ v ∧ v ≤ 1) ∧ (52 ≤ j → j < 64 → 0 ≤ v ∧ v ≤ m) ∧ (64 ≤ j → j < 76 → 0 ≤ v ∧ v ≤ m) ∧ (88 ≤ j → j < 106 → 0 ≤ v ∧ v ≤ 9999) ∧ (106 ≤ j → j < 124 → 0 ≤ v ∧ v ≤ n)
/-- who is in a shop is in an open one -/
def fa_O (m : Int) (N : Int → Int) : Prop := ∀ c : Int, 0 ≤ c → c < m → N (106 + c) ≠ 0 → N (40 + (N (106 + c) - 1)) = 0
section FI1
variable {n m : Int} {N : Int → Int}
theorem fa_I_s (h : fa_I n m N) {s : Int} (h0 : 0 ≤ s) (h1 : s < n) : (0 ≤ N (4 + s) ∧ N (4 + s) ≤ 99) ∧ (0 ≤ N (16 + s) ∧ N (16 + s) ≤ 99) ∧ (0 ≤ N (40 + s) ∧ N (40 + s) ≤ 1) ∧ (0 ≤ N (52 + s) ∧ N (52 + s) ≤ m) ∧ (0 ≤ N (64 + s) ∧ N (64 + s) ≤ m) := h.2.1 s h0 h1
theorem fa_I_c (h : fa_I n m N) {c : Int} (h0 : 0 ≤ c) (h1 : c < m) : (0 ≤ N (88 + c) ∧ N (88 + c) ≤ 9999) ∧ (0 ≤ N (106 + c) ∧ N (106 + c) ≤ n) := h.2.2 c h0 h1
theorem fa_up_or (N : Int → Int) (j v i : Int) : (i = j ∧ fa_up N j v i = v) ∨ (i ≠ j ∧ fa_up N j v i = N i) := by
  by_cases h : i = j
  · exact Or.inl ⟨h, by rw [h, fa_up_eq]⟩
  · exact Or.inr ⟨h, fa_up_ne h⟩
theorem fa_I_u {j v : Int} (hnm : n ≤ 12 ∧ m ≤ 18) (h : fa_I n m N) (hj : fa_Iv n m j v) : fa_I n m (fa_up N j v) := by
  obtain ⟨h1, h2, h3⟩ := h
  obtain ⟨j1, j4, j16, j40, j52, j64, j88, j106⟩ := hj
  refine ⟨?_, fun s s0 s1 => ?_, fun c c0 c1 => ?_⟩
  · rcases fa_up_or N j v 1 with ⟨a, e⟩ | ⟨-, e⟩ <;> rw [e]
    · exact j1 a.symm
    · exact h1
  · obtain ⟨a4, a16, a40, a52, a64⟩ := h2 s s0 s1
    refine ⟨?_, ?_, ?_, ?_, ?_⟩
    · rcases fa_up_or N j v (4 + s) with ⟨a, e⟩ | ⟨-, e⟩ <;> rw [e]
      · exact j4 (by omega) (by omega)
      · exact a4
    · rcases fa_up_or N j v (16 + s) with ⟨a, e⟩ | ⟨-, e⟩ <;> rw [e]
      · exact j16 (by omega) (by omega)
      · exact a16
    · rcases fa_up_or N j v (40 + s) with ⟨a, e⟩ | ⟨-, e⟩ <;> rw [e]
      · exact j40 (by omega) (by omega)
      · exact a40
    · rcases fa_up_or N j v (52 + s) with ⟨a, e⟩ | ⟨-, e⟩ <;> rw [e]
      · exact j52 (by omega) (by omega)
      · exact a52
    · rcases fa_up_or N j v (64 + s) with ⟨a, e⟩ | ⟨-, e⟩ <;> rw [e]
      · exact j64 (by omega) (by omega)
      · exact a64
  · obtain ⟨a88, a106⟩ := h3 c c0 c1
    refine ⟨?_, ?_⟩
    · rcases fa_up_or N j v (88 + c) with ⟨a, e⟩ | ⟨-, e⟩ <;> rw [e]
      · exact j88 (by omega) (by omega)
      · exact a88
    · rcases fa_up_or N j v (106 + c) with ⟨a, e⟩ | ⟨-, e⟩ <;> rw [e]
      · exact j106 (by omega) (by omega)
      · exact a106
/-- a place that nothing is asked of -/
theorem fa_Iv_n {j v : Int} (h : j = 0 ∨ j = 2 ∨ j = 3 ∨ (28 ≤ j ∧ j < 40) ∨ (76 ≤ j ∧ j < 88) ∨ 124 ≤ j) : fa_Iv n m j v := ⟨fun _ => by omega, fun _ _ => by omega, fun _ _ => by omega, fun _ _ => by omega, fun _ _ => by omega, fun _ _ => by omega, fun _ _ => by omega, fun _ _ => by omega⟩
theorem fa_Iv_4 {j v : Int} (h : 4 ≤ j ∧ j < 28) (hv : 0 ≤ v ∧ v ≤ 99) : fa_Iv n m j v := ⟨fun _ => by omega, fun _ _ => hv, fun _ _ => hv, fun _ _ => by omega, fun _ _ => by omega, fun _ _ => by omega, fun _ _ => by omega, fun _ _ => by omega⟩
theorem fa_Iv_40 {j v : Int} (h : 40 ≤ j ∧ j < 52) (hv : 0 ≤ v ∧ v ≤ 1) : fa_Iv n m j v := ⟨fun _ => by omega, fun _ _ => by omega, fun _ _ => by omega, fun _ _ => hv, fun _ _ => by omega, fun _ _ => by omega, fun _ _ => by omega, fun _ _ => by omega⟩
theorem fa_Iv_52 {j v : Int} (h : 52 ≤ j ∧ j < 76) (hv : 0 ≤ v ∧ v ≤ m) : fa_Iv n m j v := ⟨fun _ => by omega, fun _ _ => by omega, fun _ _ => by omega, fun _ _ => by omega, fun _ _ => hv, fun _ _ => hv, fun _ _ => by omega, fun _ _ => by omega⟩
theorem fa_Iv_88 {j v : Int} (h : 88 ≤ j ∧ j < 106) (hv : 0 ≤ v ∧ v ≤ 9999) : fa_Iv n m j v := ⟨fun _ => by omega, fun _ _ => by omega, fun _ _ => by omega, fun _ _ => by omega, fun _ _ => by omega, fun _ _ => by omega, fun _ _ => hv, fun _ _ => by omega⟩
theorem fa_Iv_106 {j v : Int} (h : 106 ≤ j ∧ j < 124) (hv : 0 ≤ v ∧ v ≤ n) : fa_Iv n m j v := ⟨fun _ => by omega, fun _ _ => by omega, fun _ _ => by omega, fun _ _ => by omega, fun _ _ => by omega, fun _ _ => by omega, fun _ _ => by omega, fun _ _ => hv⟩
theorem fa_Iv_1 {v : Int} (hv : 0 ≤ v ∧ v ≤ 11) : fa_Iv n m 1 v := ⟨fun _ => hv, fun _ _ => by omega, fun _ _ => by omega, fun _ _ => by omega, fun _ _ => by omega, fun _ _ => by omega, fun _ _ => by omega, fun _ _ => by omega⟩
/-- rows alike within -/
theorem fa_I_cg {N' : Int → Int} (hnm : n ≤ 12 ∧ m ≤ 18) (e : ∀ i : Int, 0 ≤ i → i < 160 → N' i = N i) (h : fa_I n m N) : fa_I n m N' := by
  obtain ⟨h1, h2, h3⟩ := h
  refine ⟨by rw [e 1 (by omega) (by omega)]; exact h1, fun s s0 s1 => ?_, fun c c0 c1 => ?_⟩
  · rw [e (4 + s) (by omega) (by omega), e (16 + s) (by omega) (by omega), e (40 + s) (by omega) (by omega), e (52 + s) (by omega) (by omega), e (64 + s) (by omega) (by omega)]
    exact h2 s s0 s1
  · rw [e (88 + c) (by omega) (by omega), e (106 + c) (by omega) (by omega)]
    exact h3 c c0 c1
theorem fa_O_u {j v : Int} (hnm : n ≤ 12 ∧ m ≤ 18) (hI : fa_I n m N) (h : fa_O m N) (hj : j < 40 ∨ (52 ≤ j ∧ j < 106) ∨ 124 ≤ j) : fa_O m (fa_up N j v) := fun c c0 c1 hc => by
  have hb := (fa_I_c hI c0 c1).2
  rw [fa_up_ne (i := 106 + c) (by omega)] at hc ⊢
  rw [fa_up_ne (by omega)]
  exact h c c0 c1 hc
theorem fa_O_cg {N' : Int → Int} (hnm : n ≤ 12 ∧ m ≤ 18) (hI : fa_I n m N) (e : ∀ i : Int, 0 ≤ i → i < 160 → N' i = N i) (h : fa_O m N) : fa_O m N' := fun c c0 c1 hc => by
  have hb := (fa_I_c hI c0 c1).2
  rw [e (106 + c) (by omega) (by omega)] at hc ⊢
  rw [e _ (by omega) (by omega)]
  exact h c c0 c1 hc
/-- what keeps both -/
def fa_K (n m : Int) (N N' : Int → Int) : Prop := fa_I n m N → fa_I n m N' ∧ (fa_O m N → fa_O m N')
theorem fa_K_0 : fa_K n m N N := fun h => ⟨h, fun o => o⟩
theorem fa_K_tr {N1 N2 : Int → Int} (a : fa_K n m N N1) (b : fa_K n m N1 N2) : fa_K n m N N2 := fun h => ⟨(b (a h).1).1, fun o => (b (a h).1).2 ((a h).2 o)⟩
theorem fa_K_u {j v : Int} (hnm : n ≤ 12 ∧ m ≤ 18) (hj : j < 40 ∨ (52 ≤ j ∧ j < 106) ∨ 124 ≤ j) (hv : fa_I n m N → fa_Iv n m j v) : fa_K n m N (fa_up N j v) := fun h => ⟨fa_I_u hnm h (hv h), fun o => fa_O_u hnm h o hj⟩
section FI2
variable {th : Bool} {c s k w v : Int} {B : Int → Int}
theorem fa_K_last (hnm : n ≤ 12 ∧ m ≤ 18) (hc : 0 ≤ c ∧ c < m) (hs : 0 ≤ s ∧ s < n) : fa_K n m N (fa_last N c s) := by
  unfold fa_last
  split
  · exact fa_K_0
  · exact fa_K_tr (fa_K_u hnm (by omega) (fun h => fa_Iv_52 ⟨by omega, by omega⟩ (fa_I_s h hs.1 hs.2).2.2.2.1)) (fa_K_u hnm (by omega) (fun h => fa_Iv_52 ⟨by omega, by omega⟩ ⟨by omega, by omega⟩))
theorem fa_K_thing (hnm : n ≤ 12 ∧ m ≤ 18) (hc : 0 ≤ c ∧ c < m) (hs : 0 ≤ s ∧ s < n) (hg : 1 ≤ N (4 + s)) : fa_K n m N (fa_thing N c s) := by
  unfold fa_thing
  refine fa_K_tr (fa_K_tr (fa_K_u (j := 4 + s) (v := N (4 + s) - 1) hnm (by omega) (fun h => fa_Iv_4 ⟨by omega, by omega⟩ ?_)) ?_) (fa_K_last hnm hc hs)
  · have := (fa_I_s h hs.1 hs.2).1
    omega
  · unfold fa_bt
    exact fa_K_u hnm (by omega) (fun h => fa_Iv_n (by omega))
theorem fa_K_note (hnm : n ≤ 12 ∧ m ≤ 18) : fa_K n m N (fa_note th k w v (N, B)).1 := by
  unfold fa_note
  split
  · exact fa_K_0
  · exact fa_K_u hnm (by omega) (fun h => fa_Iv_n (by omega))
theorem fa_K_noteS {S : fa_St} (hnm : n ≤ 12 ∧ m ≤ 18) : fa_K n m S.1 (fa_note th k w v S).1 := fa_K_note (B := S.2) hnm
theorem fa_K_bought (hnm : n ≤ 12 ∧ m ≤ 18) (hc : 0 ≤ c ∧ c < m) (hs : 0 ≤ s ∧ s < n) (hg : 1 ≤ N (4 + s)) (hv : 0 ≤ v ∧ v ≤ N (88 + c)) : fa_K n m N (fa_bought th c s v (N, B)).1 := by
  unfold fa_bought
  refine fa_K_tr (fa_K_tr (fa_K_tr (fa_K_u (j := 88 + c) (v := N (88 + c) - v) hnm (by omega) (fun h => fa_Iv_88 ⟨by omega, by omega⟩ ?_)) (fa_K_u (j := 28 + s) (v := pm_w32 (N (28 + s) + v)) hnm (by omega) (fun h => fa_Iv_n (by omega)))) (fa_K_thing hnm hc hs ?_)) (fa_K_noteS (S := (fa_thing (fa_up (fa_up N (88 + c) (N (88 + c) - v)) (28 + s) (pm_w32 (N (28 + s) + v))) c s, B)) hnm)
  · have := (fa_I_c h hc.1 hc.2).1
    omega
  · rw [fa_up_ne (by omega), fa_up_ne (by omega)]
    exact hg
theorem fa_K_draw (hnm : n ≤ 12 ∧ m ≤ 18) : fa_K n m N (fa_draw N) := fa_K_u hnm (by omega) (fun h => fa_Iv_n (by omega))
theorem fa_K_soN {o : Int} (hnm : n ≤ 12 ∧ m ≤ 18) : fa_K n m N (fa_soN th o N) := by
  unfold fa_soN
  split
  · exact fa_K_0
  · exact fa_K_draw hnm
/-- errands that are of their kinds -/
def fa_dk (n m o a b : Int) : Prop := (o = 0 → (0 ≤ a ∧ a < n) ∧ 0 ≤ b ∧ b ≤ 99) ∧ (o = 1 → (0 ≤ a ∧ a < n) ∧ 0 ≤ b ∧ b ≤ 99) ∧ (o = 2 → (0 ≤ a ∧ a < m) ∧ 0 ≤ b ∧ b ≤ 999) ∧ (o ≠ 0 → o ≠ 1 → o ≠ 2 → (0 ≤ a ∧ a < n) ∧ 0 ≤ b ∧ b < m)
theorem fa_K_deed {a b : Int} (hnm : n ≤ 12 ∧ m ≤ 18) (hd : fa_dk n m k a b) : fa_K n m N (fa_deed th k a b (N, B)).1 := by
  obtain ⟨d0, d1, d2, d3⟩ := hd
  unfold fa_deed
  split
  · rename_i h
    obtain ⟨e1, e2⟩ := d0 h
    exact fa_K_u hnm (by omega) (fun h => fa_Iv_4 ⟨by omega, by omega⟩ ⟨by omega, by omega⟩)
  · rename_i n0
    split
    · rename_i h
      obtain ⟨e1, e2⟩ := d1 h
      exact fa_K_u hnm (by omega) (fun h => fa_Iv_4 ⟨by omega, by omega⟩ ⟨by omega, by omega⟩)
    · rename_i n1
      split
      · rename_i h
        obtain ⟨e1, e2⟩ := d2 h
        refine fa_K_u hnm (by omega) (fun h => fa_Iv_88 ⟨by omega, by omega⟩ ?_)
        have := (fa_I_c h e1.1 e1.2).1
        show 0 ≤ min 9999 (N (88 + a) + b) ∧ min 9999 (N (88 + a) + b) ≤ 9999
        omega
      · rename_i n2
        obtain ⟨e1, e2⟩ := d3 n0 n1 n2
        split
        · exact fa_K_0
        · rename_i hz
          have hz : ¬ N (4 + a) = 0 := hz
          by_cases hp : 1 ≤ N (4 + a)
          · exact fa_K_tr (fa_K_thing hnm e2 e1 hp) (fa_K_noteS (S := (fa_thing N b a, B)) hnm)
          · intro h
            have := (fa_I_s h e1.1 e1.2).1
            omega
theorem fa_K_deedS {S : fa_St} {a b : Int} (hnm : n ≤ 12 ∧ m ≤ 18) (hd : fa_dk n m k a b) : fa_K n m S.1 (fa_deed th k a b S).1 := fa_K_deed (B := S.2) hnm hd
def fa_dks (n m dn : Int) (D : Int → Int) : Prop := ∀ k : Int, 0 ≤ k → k < dn → fa_dk n m (D (4 * k + 1)) (D (4 * k + 2)) (D (4 * k + 3))
theorem fa_K_deeds {D : Int → Int} {dn : Int} (hnm : n ≤ 12 ∧ m ≤ 18) (hd : fa_dks n m dn D) : ∀ (k : Nat) {S : fa_St}, (k : Int) ≤ dn → fa_K n m S.1 (fa_deeds th D k S).1
  | 0, S, _ => fa_K_0
  | k + 1, S, hk => by
    refine fa_K_tr (fa_K_deeds hnm hd k (by omega)) ?_
    by_cases h : D (4 * (k : Int)) = (fa_deeds th D k S).1 0
    · rw [fa_deeds_y h]
      exact fa_K_deedS hnm (hd k (by omega) (by omega))
    · rw [fa_deeds_n h]
      exact fa_K_0
theorem fa_opens_I (hnm : n ≤ 12 ∧ m ≤ 18) (hm : 0 ≤ m) (h : fa_I n m N) : ∀ k : Nat, k ≤ 12 → fa_I n m (fa_opens N k) ∧ (∀ i : Int, (i < 40 ∨ 76 ≤ i) → fa_opens N k i = N i) ∧ ∀ s : Int, 0 ≤ s → s < (k : Int) → fa_opens N k (40 + s) = 0
  | 0, _ => ⟨h, fun _ _ => rfl, fun s s0 s1 => absurd s1 (by omega)⟩
  | k + 1, hk => by
    obtain ⟨a, b, c⟩ := fa_opens_I hnm hm h k (by omega)
    rw [fa_opens_s]
    refine ⟨fa_I_u hnm (fa_I_u hnm (fa_I_u hnm a (fa_Iv_40 ⟨by omega, by omega⟩ ⟨by omega, by omega⟩)) (fa_Iv_52 ⟨by omega, by omega⟩ ⟨by omega, by omega⟩)) (fa_Iv_52 ⟨by omega, by omega⟩ ⟨by omega, by omega⟩), fun i hi => ?_, fun s s0 s1 => ?_⟩
    · rw [fa_up_ne (by omega), fa_up_ne (by omega), fa_up_ne (by omega)]
      exact b i hi
    · rw [fa_up_ne (by omega), fa_up_ne (by omega)]
      by_cases he : s = (k : Int)
      · rw [he, fa_up_eq]
      · rw [fa_up_ne (by omega)]
        exact c s s0 (by omega)
theorem fa_opens_O (hnm : n ≤ 12 ∧ m ≤ 18) (hm : 0 ≤ m) (hn : 0 ≤ n) (h : fa_I n m N) : fa_O m (fa_opens N n.toNat) := fun c c0 c1 hc => by
  obtain ⟨-, b, d⟩ := fa_opens_I hnm hm h n.toNat (by omega)
  have hb := (fa_I_c h c0 c1).2
  rw [b (106 + c) (by omega)] at hc ⊢
  exact d _ (by omega) (by omega)
/-- rounds that are of their kinds -/
def fa_rks (n m rn : Int) (R : Int → Int) : Prop := ∀ k : Int, 0 ≤ k → k < rn → (0 ≤ R (3 * k) ∧ R (3 * k) < m) ∧ (0 ≤ R (3 * k + 1) ∧ R (3 * k + 1) ≤ 11) ∧ (0 ≤ R (3 * k + 2) ∧ R (3 * k + 2) ≤ n)
theorem fa_K_in (hnm : n ≤ 12 ∧ m ≤ 18) (hc : 0 ≤ c ∧ c < m) (hv : 0 ≤ v ∧ v ≤ n) (ho : v = 0 ∨ N (40 + (v - 1)) = 0) : fa_K n m N (fa_up N (106 + c) v) := fun h => ⟨fa_I_u hnm h (fa_Iv_106 ⟨by omega, by omega⟩ hv), fun o d d0 d1 hd => by
  by_cases he : d = c
  · rw [he, fa_up_eq] at hd ⊢
    rw [fa_up_ne (by omega)]
    exact ho.resolve_left hd
  · have hb := (fa_I_c h d0 d1).2
    rw [fa_up_ne (i := 106 + d) (by omega)] at hd ⊢
    rw [fa_up_ne (by omega)]
    exact o d d0 d1 hd⟩
theorem fa_K_rounds {R : Int → Int} {rn : Int} (hnm : n ≤ 12 ∧ m ≤ 18) (hr : fa_rks n m rn R) : ∀ k : Nat, (k : Int) ≤ rn → fa_K n m N (fa_rounds R N k)
  | 0, _ => fa_K_0
  | k + 1, hk => by
    refine fa_K_tr (fa_K_rounds hnm hr k (by omega)) ?_
    obtain ⟨h1, h2, h3⟩ := hr k (by omega) (by omega)
    by_cases h : R (3 * (k : Int) + 1) = fa_rounds R N k 1 ∧ (R (3 * (k : Int) + 2) = 0 ∨ fa_rounds R N k (40 + (R (3 * (k : Int) + 2) - 1)) = 0)
    · rw [fa_rounds_y h]
      exact fa_K_in hnm h1 h3 h.2
    · rw [fa_rounds_n h]
      exact fa_K_0
theorem fa_costs_0 {t : fa_Lw} {pol : Int → Int} : 0 ≤ fa_costs t N pol m c s ∧ fa_costs t N pol m c s ≤ 999 := fa_held_b (by decide)
theorem fa_can_e {t : fa_Lw} {pol : Int → Int} (h : fa_can t pol m c N = true) : N (106 + c) ≠ 0 ∧ N (4 + (N (106 + c) - 1)) ≠ 0 ∧ fa_costs t N pol m c (N (106 + c) - 1) ≤ N (88 + c) := by
  unfold fa_can at h
  rw [Bool.and_eq_true, Bool.and_eq_true] at h
  exact ⟨of_decide_eq_true h.1.1, of_decide_eq_true h.1.2, of_decide_eq_true h.2⟩
theorem fa_K_turn {t : fa_Lw} {pol : Int → Int} (hnm : n ≤ 12 ∧ m ≤ 18) (hc : 0 ≤ c ∧ c < m) : fa_K n m N (fa_turn th t pol m c (N, B)).1 := by
  by_cases h : fa_can t pol m c N = true
  · by_cases hs : fa_so th (fa_buys t N pol m c (N (106 + c) - 1)) N = true
    · rw [(fa_turn_y h hs).1]
      obtain ⟨a1, a2, a3⟩ := fa_can_e h
      intro hI
      have hb := (fa_I_c hI hc.1 hc.2).2
      have hg := (fa_I_s hI (s := N (106 + c) - 1) (by omega) (by omega)).1
      exact fa_K_tr (fa_K_soN hnm) (fa_K_bought hnm hc ⟨by omega, by omega⟩ (by rw [fa_soN_ne (by omega)]; omega) ⟨fa_costs_0.1, by rw [fa_soN_ne (by omega)]; exact a3⟩) hI
    · rw [(fa_turn_n h hs).1]
      exact fa_K_soN hnm
  · rw [(fa_turn_0 h).1]
    exact fa_K_0
theorem fa_K_turnS {t : fa_Lw} {pol : Int → Int} {S : fa_St} (hnm : n ≤ 12 ∧ m ≤ 18) (hc : 0 ≤ c ∧ c < m) : fa_K n m S.1 (fa_turn th t pol m c S).1 := fa_K_turn (B := S.2) hnm hc
theorem fa_K_turns {t : fa_Lw} {pol : Int → Int} (hnm : n ≤ 12 ∧ m ≤ 18) : ∀ (k : Nat) {S : fa_St}, (k : Int) ≤ m → fa_K n m S.1 (fa_turns th t pol m k S).1
  | 0, S, _ => fa_K_0
  | k + 1, S, hk => by
    rw [fa_turns_s]
    exact fa_K_tr (fa_K_turns hnm k (by omega)) (fa_K_turnS hnm ⟨by omega, by omega⟩)
/-- the evening: the ranges alone -/
theorem fa_I_stays {S : fa_St} (hnm : n ≤ 12 ∧ m ≤ 18) (hs : 0 ≤ s ∧ s < n) (h : fa_I n m S.1) : fa_I n m (fa_stays th s S).1 := by
  unfold fa_stays
  exact (fa_K_noteS hnm (fa_I_u hnm h (fa_Iv_n (by omega)))).1
theorem fa_I_pole {S : fa_St} (hnm : n ≤ 12 ∧ m ≤ 18) (hs : 0 ≤ s ∧ s < n) (hc : 0 ≤ c) (h : fa_I n m S.1) : fa_I n m (fa_pole th c s S).1 := by
  unfold fa_pole
  exact (fa_K_noteS hnm (fa_I_u hnm (fa_I_u hnm (fa_I_u hnm h (fa_Iv_n (by omega))) (fa_Iv_40 ⟨by omega, by omega⟩ ⟨by omega, by omega⟩)) (fa_Iv_n (by omega)))).1
theorem fa_I_shut {t : fa_Lw} {pol : Int → Int} (hnm : n ≤ 12 ∧ m ≤ 18) (hs : 0 ≤ s ∧ s < n) (h : fa_I n m N) : fa_I n m (fa_shut th t pol m s (N, B)).1 := by
  have h52 := (fa_I_s h hs.1 hs.2).2.2.2.1
  by_cases h0 : N (52 + s) = 0
  · rw [fa_shut_0 h0]
    exact fa_I_stays (S := (N, B)) hnm hs h
  · by_cases hso : fa_so th (fa_yields t N pol m (N (52 + s) - 1) s) N = true
    · obtain ⟨S1, e⟩ : ∃ S1, S1 = fa_note th 2 (N (52 + s) - 1) s (fa_soN th (fa_yields t N pol m (N (52 + s) - 1) s) N, B) := ⟨_, rfl⟩
      obtain ⟨N1, B1⟩ := S1
      rw [fa_shut_y h0 hso e]
      have h1 : fa_I n m N1 := by
        have := (fa_K_noteS (th := th) (k := 2) (w := N (52 + s) - 1) (v := s) (S := (fa_soN th (fa_yields t N pol m (N (52 + s) - 1) s) N, B)) hnm (fa_K_soN hnm h).1).1
        rw [← e] at this
        exact this
      have h64 := (fa_I_s h1 hs.1 hs.2).2.2.2.2
      by_cases hc : N1 (64 + s) - 1 = -1
      · rw [fa_one_y hc]
        exact fa_I_stays (S := (N1, B1)) hnm hs h1
      · rw [fa_one_n hc]
        exact fa_I_pole (S := (N1, B1)) hnm hs (by omega) h1
    · rw [fa_shut_n h0 hso]
      exact fa_I_pole (S := (_, B)) hnm hs (by omega) (fa_K_soN hnm h).1
theorem fa_I_shuts {t : fa_Lw} {pol : Int → Int} (hnm : n ≤ 12 ∧ m ≤ 18) : ∀ (k : Nat) {S : fa_St}, (k : Int) ≤ n → fa_I n m S.1 → fa_I n m (fa_shuts th t pol m k S).1
  | 0, S, _, h => h
  | k + 1, S, hk, h => by
    rw [fa_shuts_s]
    exact fa_I_shut (B := (fa_shuts th t pol m k S).2) hnm ⟨by omega, by omega⟩ (fa_I_shuts hnm k (by omega) h)
theorem fa_outs_I (hnm : n ≤ 12 ∧ m ≤ 18) (hn : 0 ≤ n) (h : fa_I n m N) : ∀ k : Nat, k ≤ 18 → fa_I n m (fa_outs N k) ∧ ∀ c : Int, 0 ≤ c → c < (k : Int) → fa_outs N k (106 + c) = 0
  | 0, _ => ⟨h, fun c c0 c1 => absurd c1 (by omega)⟩
  | k + 1, hk => by
    obtain ⟨a, b⟩ := fa_outs_I hnm hn h k (by omega)
    rw [fa_outs_s]
    refine ⟨fa_I_u hnm a (fa_Iv_106 ⟨by omega, by omega⟩ ⟨by omega, by omega⟩), fun c c0 c1 => ?_⟩
    by_cases he : c = (k : Int)
    · rw [he, fa_up_eq]
    · rw [fa_up_ne (by omega)]
      exact b c c0 (by omega)
theorem fa_I_eve {t : fa_Lw} {pol : Int → Int} {S : fa_St} (hnm : n ≤ 12 ∧ m ≤ 18) (hn : 0 ≤ n) (hm : 0 ≤ m) (h : fa_I n m S.1) : fa_I n m (fa_eve th t pol n m S).1 ∧ fa_O m (fa_eve th t pol n m S).1 := by
  obtain ⟨S1, e⟩ : ∃ S1, S1 = fa_shuts th t pol m n.toNat S := ⟨_, rfl⟩
  obtain ⟨N1, B1⟩ := S1
  rw [fa_eve_e e]
  have h1 : fa_I n m N1 := by
    have := fa_I_shuts (th := th) (t := t) (pol := pol) hnm n.toNat (S := S) (by omega) h
    rw [← e] at this
    exact this
  obtain ⟨a, b⟩ := fa_outs_I hnm hn h1 m.toNat (by omega)
  refine ⟨fa_I_u hnm (fa_I_u hnm a (fa_Iv_1 ⟨by omega, by omega⟩)) (fa_Iv_n (by omega)), fun c c0 c1 hc => ?_⟩
  have hc : fa_up (fa_up (fa_outs N1 m.toNat) 1 0) 0 (pm_w32 (fa_outs N1 m.toNat 0 + 1)) (106 + c) ≠ 0 := hc
  rw [fa_up_ne (by omega), fa_up_ne (by omega), b c c0 (by omega)] at hc
  exact absurd rfl hc
theorem fa_I_end {t : fa_Lw} {pol : Int → Int} (hnm : n ≤ 12 ∧ m ≤ 18) (hn : 0 ≤ n) (hm : 0 ≤ m) (h : fa_I n m N) (o : fa_O m N) : fa_I n m (fa_end th t pol n m (N, B)).1 ∧ fa_O m (fa_end th t pol n m (N, B)).1 := by
  by_cases h1 : N 1 = 11
  · rw [fa_end_y h1]
    exact fa_I_eve hnm hn hm h
  · rw [fa_end_n h1]
    have hr := h.1
    exact ⟨fa_I_u hnm h (fa_Iv_1 ⟨by omega, by omega⟩), fa_O_u hnm h o (by omega)⟩
theorem fa_I_morn {D : Int → Int} {dn : Int} (hnm : n ≤ 12 ∧ m ≤ 18) (hn : 0 ≤ n) (hm : 0 ≤ m) (hdn : 0 ≤ dn) (hd : fa_dks n m dn D) (h : fa_I n m N) (o : fa_O m N) : fa_I n m (fa_morn th D dn n (N, B)).1 ∧ fa_O m (fa_morn th D dn n (N, B)).1 := by
  by_cases h1 : N 1 = 0
  · rw [fa_morn_y h1]
    have k := fa_K_deeds (th := th) (D := D) hnm hd dn.toNat (S := (fa_opens N n.toNat, B)) (by omega) (fa_opens_I hnm hm h n.toNat (by omega)).1
    exact ⟨k.1, k.2 (fa_opens_O hnm hm hn h)⟩
  · rw [fa_morn_n h1]
    exact ⟨h, o⟩
theorem fa_I_hour {t : fa_Lw} {R D pol : Int → Int} {rn dn : Int} {S : fa_St} (hnm : n ≤ 12 ∧ m ≤ 18) (hn : 0 ≤ n) (hm : 0 ≤ m) (hrn : 0 ≤ rn) (hdn : 0 ≤ dn) (hr : fa_rks n m rn R) (hd : fa_dks n m dn D) (h : fa_I n m S.1) (o : fa_O m S.1) : fa_I n m (fa_hour th t R D pol rn dn n m S).1 ∧ fa_O m (fa_hour th t R D pol rn dn n m S).1 := by
  rw [fa_hour_e]
  obtain ⟨a1, a2⟩ := fa_I_morn (th := th) (D := D) (B := S.2) hnm hn hm hdn hd h o
  have kr := fa_K_rounds (N := (fa_morn th D dn n S).1) hnm hr rn.toNat (by omega) a1
  have kt := fa_K_turns (th := th) (t := t) (pol := pol) hnm m.toNat (S := fa_to th R D rn dn n S) (by omega) kr.1
  exact fa_I_end (B := (fa_turns th t pol m m.toNat (fa_to th R D rn dn n S)).2) hnm hn hm kt.1 (kt.2 (kr.2 a2))
end FI2
end FI1
