/-! the arcade as one row of numbers; what the class keeps of it (printed by wip/f/mkf1.py) -/
def fa_up (N : Int → Int) (j v : Int) : Int → Int := fun i => if i = j then v else N i
theorem fa_up_eq {N : Int → Int} {j v : Int} : fa_up N j v j = v := if_pos rfl
theorem fa_up_ne {N : Int → Int} {j v i : Int} (h : i ≠ j) : fa_up N j v i = N i := if_neg h
theorem fa_pm {μ : pm_Mem} {r : Nat} {j v : Int} : pm_up μ r j v r = fa_up (μ r) j v := funext fun i => by
  unfold fa_up
  by_cases h : i = j
  · rw [h, pm_up_eq, if_pos rfl]
  · rw [pm_up_ne h, if_neg h]
theorem fa_id {N : Int → Int} {j : Int} : fa_up N j (N j) = N := funext fun i => by
  unfold fa_up
  by_cases h : i = j
  · rw [if_pos h, h]
  · rw [if_neg h]
theorem fa_comm {N : Int → Int} {j k x y : Int} (h : j ≠ k) : fa_up (fa_up N j x) k y = fa_up (fa_up N k y) j x := funext fun i => by
  unfold fa_up
  by_cases h1 : i = k
  · rw [if_pos h1, if_neg (by omega), if_pos h1]
  · rw [if_neg h1]
    by_cases h2 : i = j
    · rw [if_pos h2, if_pos h2]
    · rw [if_neg h2, if_neg h2, if_neg h1]
/-- but in these regions nothing has changed -/
def fa_fr (L : List Nat) (μ μ' : pm_Mem) : Prop := ∀ r, L.contains r = false → μ' r = μ r
theorem fa_fr_0 {L : List Nat} {μ : pm_Mem} : fa_fr L μ μ := fun _ _ => rfl
theorem fa_fr_st {L : List Nat} {μ μ1 μ2 : pm_Mem} {r : Nat} {i x : Int} (h : fa_fr L μ μ1) (e : μ2 = pm_up μ1 r i x) (hr : L.contains r = true) : fa_fr L μ μ2 := fun q hq => by
  rw [e, pm_up_row (fun c => by rw [c, hr] at hq; cases hq)]
  exact h q hq
theorem fa_fr_tr {L L2 : List Nat} {μ μ1 μ2 : pm_Mem} (h : fa_fr L μ μ1) (h2 : fa_fr L2 μ1 μ2) (hs : L2.all (fun r => L.contains r) = true) : fa_fr L μ μ2 := fun q hq => by
  have hq2 : L2.contains q = false := by
    cases hc : L2.contains q with
    | false => rfl
    | true =>
      have := List.all_eq_true.mp hs q (by simpa using hc)
      rw [this] at hq
      cases hq
  rw [h2 q hq2, h q hq]
def fa_T : List (Nat × Int × Nat × Nat) := [(1, 4, 0, 0), (2, 16, 0, 0), (3, 28, 0, 0), (4, 40, 0, 2), (5, 52, 0, 1), (6, 64, 0, 1), (7, 76, 0, 0), (8, 88, 1, 0), (10, 106, 1, 1), (11, 124, 1, 0), (12, 142, 1, 0)]
def fa_dec (c : Nat) (x : Int) : Int := match c with
  | 0 => x
  | 1 => x - 1
  | _ => 1 - x
def fa_len (k : Nat) (n m : Int) : Int := match k with
  | 0 => n
  | _ => m
/-- the class's arcade at a: so many shops, customers, a row, how polite -/
def fa_A (a : Nat) (n m : Int) (N pol : Int → Int) (μ : pm_Mem) : Prop := (μ a 0 = n ∧ μ a 1 = m ∧ μ a 2 = N 1 ∧ μ a 3 = N 0 ∧ μ a 4 = N 2) ∧ (∀ q ∈ fa_T, ∀ s : Int, 0 ≤ s → s < fa_len q.2.2.1 n m → μ (a + q.1) s = fa_dec q.2.2.2 (N (q.2.1 + s))) ∧ ∀ c : Int, 0 ≤ c → c < m → μ (a + 9) c = pol c
theorem fa_T_b : ∀ q ∈ fa_T, 1 ≤ q.1 ∧ q.1 ≤ 12 ∧ q.1 ≠ 9 ∧ 4 ≤ q.2.1 ∧ (q.2.2.1 = 0 ∨ q.2.2.1 = 1) := by decide
theorem fa_T_d : ∀ q ∈ fa_T, ∀ p ∈ fa_T, p = q ∨ (p.1 ≠ q.1 ∧ (p.2.1 + (if p.2.2.1 = 0 then 12 else 18) ≤ q.2.1 ∨ q.2.1 + (if q.2.2.1 = 0 then 12 else 18) ≤ p.2.1)) := by decide
theorem fa_len_b {k : Nat} {n m : Int} (h : n ≤ 12 ∧ m ≤ 18) : fa_len k n m ≤ if k = 0 then 12 else 18 := by
  cases k with
  | zero => exact h.1
  | succ k => exact h.2
section FA1
variable {a : Nat} {n m : Int} {N pol : Int → Int} {μ μ' : pm_Mem}
theorem fa_A_w {q : Nat × Int × Nat × Nat} (hq : q ∈ fa_T) {s v x : Int} (h : fa_A a n m N pol μ) (hnm : n ≤ 12 ∧ m ≤ 18) (h0 : 0 ≤ s) (h1 : s < fa_len q.2.2.1 n m) (hv : v = fa_dec q.2.2.2 x) : fa_A a n m (fa_up N (q.2.1 + s) x) pol (pm_up μ (a + q.1) s v) := by
  obtain ⟨⟨a0, a1, a2, a3, a4⟩, hT, hp⟩ := h
  obtain ⟨b1, b2, b3, b4, b5⟩ := fa_T_b q hq
  have hl := fa_len_b (k := q.2.2.1) hnm
  refine ⟨⟨?_, ?_, ?_, ?_, ?_⟩, fun p hp' s' s0 s1 => ?_, fun c c0 c1 => ?_⟩
  · rw [pm_up_row (by omega)]; exact a0
  · rw [pm_up_row (by omega)]; exact a1
  · rw [pm_up_row (by omega), fa_up_ne (by omega)]; exact a2
  · rw [pm_up_row (by omega), fa_up_ne (by omega)]; exact a3
  · rw [pm_up_row (by omega), fa_up_ne (by omega)]; exact a4
  · rcases fa_T_d q hq p hp' with rfl | ⟨d1, d2⟩
    · by_cases hs : s' = s
      · rw [hs, pm_up_eq, fa_up_eq]; exact hv
      · rw [pm_up_ne hs, fa_up_ne (by omega)]; exact hT p hp' s' s0 s1
    · have hl2 := fa_len_b (k := p.2.2.1) hnm
      rw [pm_up_row (by omega), fa_up_ne (by omega)]
      exact hT p hp' s' s0 s1
  · rw [pm_up_row (by omega)]; exact hp c c0 c1
theorem fa_A_off {r : Nat} {i x : Int} (h : fa_A a n m N pol μ) (hr : r < a ∨ a + 12 < r) : fa_A a n m N pol (pm_up μ r i x) := by
  obtain ⟨⟨a0, a1, a2, a3, a4⟩, hT, hp⟩ := h
  refine ⟨⟨?_, ?_, ?_, ?_, ?_⟩, fun p hp' s' s0 s1 => ?_, fun c c0 c1 => ?_⟩
  · rw [pm_up_row (by omega)]; exact a0
  · rw [pm_up_row (by omega)]; exact a1
  · rw [pm_up_row (by omega)]; exact a2
  · rw [pm_up_row (by omega)]; exact a3
  · rw [pm_up_row (by omega)]; exact a4
  · have := fa_T_b p hp'
    rw [pm_up_row (by omega)]; exact hT p hp' s' s0 s1
  · rw [pm_up_row (by omega)]; exact hp c c0 c1
theorem fa_A_fr (h : fa_A a n m N pol μ) (hf : ∀ r, a ≤ r → r ≤ a + 12 → μ' r = μ r) : fa_A a n m N pol μ' := by
  obtain ⟨⟨a0, a1, a2, a3, a4⟩, hT, hp⟩ := h
  refine ⟨⟨?_, ?_, ?_, ?_, ?_⟩, fun p hp' s' s0 s1 => ?_, fun c c0 c1 => ?_⟩
  · rw [hf a (by omega) (by omega)]; exact a0
  · rw [hf a (by omega) (by omega)]; exact a1
  · rw [hf a (by omega) (by omega)]; exact a2
  · rw [hf a (by omega) (by omega)]; exact a3
  · rw [hf a (by omega) (by omega)]; exact a4
  · have := fa_T_b p hp'
    rw [hf _ (by omega) (by omega)]; exact hT p hp' s' s0 s1
  · rw [hf _ (by omega) (by omega)]; exact hp c c0 c1
theorem fa_A_frL {L : List Nat} (h : fa_A a n m N pol μ) (hf : fa_fr L μ μ') (hl : L.all (fun r => Nat.blt r a || Nat.blt (a + 12) r) = true) : fa_A a n m N pol μ' :=
  fa_A_fr h (fun r h1 h2 => hf r (by
    cases hc : L.contains r with
    | false => rfl
    | true =>
      have := List.all_eq_true.mp hl r (by simpa using hc)
      simp only [Bool.or_eq_true, Nat.blt_eq] at this
      omega))
theorem fa_A_f {k : Nat} {j v : Int} (hk : (k = 2 ∧ j = 1) ∨ (k = 3 ∧ j = 0) ∨ (k = 4 ∧ j = 2)) (h : fa_A a n m N pol μ) : fa_A a n m (fa_up N j v) pol (pm_up μ a (k : Int) v) := by
  obtain ⟨⟨a0, a1, a2, a3, a4⟩, hT, hp⟩ := h
  refine ⟨⟨?_, ?_, ?_, ?_, ?_⟩, fun p hp' s' s0 s1 => ?_, fun c c0 c1 => ?_⟩
  · rw [pm_up_ne (by omega)]; exact a0
  · rw [pm_up_ne (by omega)]; exact a1
  · rcases hk with ⟨rfl, rfl⟩ | ⟨rfl, rfl⟩ | ⟨rfl, rfl⟩
    · rw [show (2 : Int) = ((2 : Nat) : Int) from rfl, pm_up_eq, fa_up_eq]
    · rw [pm_up_ne (by decide), fa_up_ne (by decide)]; exact a2
    · rw [pm_up_ne (by decide), fa_up_ne (by decide)]; exact a2
  · rcases hk with ⟨rfl, rfl⟩ | ⟨rfl, rfl⟩ | ⟨rfl, rfl⟩
    · rw [pm_up_ne (by decide), fa_up_ne (by decide)]; exact a3
    · rw [show (3 : Int) = ((3 : Nat) : Int) from rfl, pm_up_eq, fa_up_eq]
    · rw [pm_up_ne (by decide), fa_up_ne (by decide)]; exact a3
  · rcases hk with ⟨rfl, rfl⟩ | ⟨rfl, rfl⟩ | ⟨rfl, rfl⟩
    · rw [pm_up_ne (by decide), fa_up_ne (by decide)]; exact a4
    · rw [pm_up_ne (by decide), fa_up_ne (by decide)]; exact a4
    · rw [show (4 : Int) = ((4 : Nat) : Int) from rfl, pm_up_eq, fa_up_eq]
  · have b := fa_T_b p hp'
    rw [pm_up_row (by omega), fa_up_ne (by omega)]; exact hT p hp' s' s0 s1
  · rw [pm_up_row (by omega)]; exact hp c c0 c1
theorem fa_r_goods (h : fa_A a n m N pol μ) {s : Int} (h0 : 0 ≤ s) (h1 : s < n) : μ (a + 1) s = N (4 + s) := h.2.1 (1, 4, 0, 0) (by decide) s h0 h1
theorem fa_w_goods {s v x : Int} (h : fa_A a n m N pol μ) (hnm : n ≤ 12 ∧ m ≤ 18) (h0 : 0 ≤ s) (h1 : s < n) (hv : v = x) : fa_A a n m (fa_up N (4 + s) x) pol (pm_up μ (a + 1) s v) := fa_A_w (q := (1, 4, 0, 0)) (by decide) h hnm h0 h1 hv
theorem fa_r_price (h : fa_A a n m N pol μ) {s : Int} (h0 : 0 ≤ s) (h1 : s < n) : μ (a + 2) s = N (16 + s) := h.2.1 (2, 16, 0, 0) (by decide) s h0 h1
theorem fa_w_price {s v x : Int} (h : fa_A a n m N pol μ) (hnm : n ≤ 12 ∧ m ≤ 18) (h0 : 0 ≤ s) (h1 : s < n) (hv : v = x) : fa_A a n m (fa_up N (16 + s) x) pol (pm_up μ (a + 2) s v) := fa_A_w (q := (2, 16, 0, 0)) (by decide) h hnm h0 h1 hv
theorem fa_r_till (h : fa_A a n m N pol μ) {s : Int} (h0 : 0 ≤ s) (h1 : s < n) : μ (a + 3) s = N (28 + s) := h.2.1 (3, 28, 0, 0) (by decide) s h0 h1
theorem fa_w_till {s v x : Int} (h : fa_A a n m N pol μ) (hnm : n ≤ 12 ∧ m ≤ 18) (h0 : 0 ≤ s) (h1 : s < n) (hv : v = x) : fa_A a n m (fa_up N (28 + s) x) pol (pm_up μ (a + 3) s v) := fa_A_w (q := (3, 28, 0, 0)) (by decide) h hnm h0 h1 hv
theorem fa_r_open (h : fa_A a n m N pol μ) {s : Int} (h0 : 0 ≤ s) (h1 : s < n) : μ (a + 4) s = 1 - N (40 + s) := h.2.1 (4, 40, 0, 2) (by decide) s h0 h1
theorem fa_w_open {s v x : Int} (h : fa_A a n m N pol μ) (hnm : n ≤ 12 ∧ m ≤ 18) (h0 : 0 ≤ s) (h1 : s < n) (hv : v = 1 - x) : fa_A a n m (fa_up N (40 + s) x) pol (pm_up μ (a + 4) s v) := fa_A_w (q := (4, 40, 0, 2)) (by decide) h hnm h0 h1 hv
theorem fa_r_last (h : fa_A a n m N pol μ) {s : Int} (h0 : 0 ≤ s) (h1 : s < n) : μ (a + 5) s = N (52 + s) - 1 := h.2.1 (5, 52, 0, 1) (by decide) s h0 h1
theorem fa_w_last {s v x : Int} (h : fa_A a n m N pol μ) (hnm : n ≤ 12 ∧ m ≤ 18) (h0 : 0 ≤ s) (h1 : s < n) (hv : v = x - 1) : fa_A a n m (fa_up N (52 + s) x) pol (pm_up μ (a + 5) s v) := fa_A_w (q := (5, 52, 0, 1)) (by decide) h hnm h0 h1 hv
theorem fa_r_before (h : fa_A a n m N pol μ) {s : Int} (h0 : 0 ≤ s) (h1 : s < n) : μ (a + 6) s = N (64 + s) - 1 := h.2.1 (6, 64, 0, 1) (by decide) s h0 h1
theorem fa_w_before {s v x : Int} (h : fa_A a n m N pol μ) (hnm : n ≤ 12 ∧ m ≤ 18) (h0 : 0 ≤ s) (h1 : s < n) (hv : v = x - 1) : fa_A a n m (fa_up N (64 + s) x) pol (pm_up μ (a + 6) s v) := fa_A_w (q := (6, 64, 0, 1)) (by decide) h hnm h0 h1 hv
theorem fa_r_nights (h : fa_A a n m N pol μ) {s : Int} (h0 : 0 ≤ s) (h1 : s < n) : μ (a + 7) s = N (76 + s) := h.2.1 (7, 76, 0, 0) (by decide) s h0 h1
theorem fa_w_nights {s v x : Int} (h : fa_A a n m N pol μ) (hnm : n ≤ 12 ∧ m ≤ 18) (h0 : 0 ≤ s) (h1 : s < n) (hv : v = x) : fa_A a n m (fa_up N (76 + s) x) pol (pm_up μ (a + 7) s v) := fa_A_w (q := (7, 76, 0, 0)) (by decide) h hnm h0 h1 hv
theorem fa_r_purse (h : fa_A a n m N pol μ) {s : Int} (h0 : 0 ≤ s) (h1 : s < m) : μ (a + 8) s = N (88 + s) := h.2.1 (8, 88, 1, 0) (by decide) s h0 h1
theorem fa_w_purse {s v x : Int} (h : fa_A a n m N pol μ) (hnm : n ≤ 12 ∧ m ≤ 18) (h0 : 0 ≤ s) (h1 : s < m) (hv : v = x) : fa_A a n m (fa_up N (88 + s) x) pol (pm_up μ (a + 8) s v) := fa_A_w (q := (8, 88, 1, 0)) (by decide) h hnm h0 h1 hv
theorem fa_r_in (h : fa_A a n m N pol μ) {s : Int} (h0 : 0 ≤ s) (h1 : s < m) : μ (a + 10) s = N (106 + s) - 1 := h.2.1 (10, 106, 1, 1) (by decide) s h0 h1
theorem fa_w_in {s v x : Int} (h : fa_A a n m N pol μ) (hnm : n ≤ 12 ∧ m ≤ 18) (h0 : 0 ≤ s) (h1 : s < m) (hv : v = x - 1) : fa_A a n m (fa_up N (106 + s) x) pol (pm_up μ (a + 10) s v) := fa_A_w (q := (10, 106, 1, 1)) (by decide) h hnm h0 h1 hv
theorem fa_r_poles (h : fa_A a n m N pol μ) {s : Int} (h0 : 0 ≤ s) (h1 : s < m) : μ (a + 11) s = N (124 + s) := h.2.1 (11, 124, 1, 0) (by decide) s h0 h1
theorem fa_w_poles {s v x : Int} (h : fa_A a n m N pol μ) (hnm : n ≤ 12 ∧ m ≤ 18) (h0 : 0 ≤ s) (h1 : s < m) (hv : v = x) : fa_A a n m (fa_up N (124 + s) x) pol (pm_up μ (a + 11) s v) := fa_A_w (q := (11, 124, 1, 0)) (by decide) h hnm h0 h1 hv
theorem fa_r_bought (h : fa_A a n m N pol μ) {s : Int} (h0 : 0 ≤ s) (h1 : s < m) : μ (a + 12) s = N (142 + s) := h.2.1 (12, 142, 1, 0) (by decide) s h0 h1
theorem fa_w_bought {s v x : Int} (h : fa_A a n m N pol μ) (hnm : n ≤ 12 ∧ m ≤ 18) (h0 : 0 ≤ s) (h1 : s < m) (hv : v = x) : fa_A a n m (fa_up N (142 + s) x) pol (pm_up μ (a + 12) s v) := fa_A_w (q := (12, 142, 1, 0)) (by decide) h hnm h0 h1 hv
theorem fa_r_polite (h : fa_A a n m N pol μ) {s : Int} (h0 : 0 ≤ s) (h1 : s < m) : μ (a + 9) s = pol s := h.2.2 s h0 h1
end FA1
/-! what is done to it -/
def fa_last (N : Int → Int) (c s : Int) : Int → Int := if N (52 + s) = c + 1 then N else fa_up (fa_up N (64 + s) (N (52 + s))) (52 + s) (c + 1)
def fa_bt (N : Int → Int) (c : Int) : Int → Int := fa_up N (142 + c) (pm_w32 (N (142 + c) + 1))
def fa_thing (N : Int → Int) (c s : Int) : Int → Int := fa_last (fa_bt (fa_up N (4 + s) (N (4 + s) - 1)) c) c s
/-- a row and a book -/
abbrev fa_St : Type := (Int → Int) × (Int → Int)
def fa_bk (B : Int → Int) (k x0 x1 x2 x3 x4 : Int) : Int → Int := fa_up (fa_up (fa_up (fa_up (fa_up B (5 * k) x0) (5 * k + 1) x1) (5 * k + 2) x2) (5 * k + 3) x3) (5 * k + 4) x4
def fa_note (th : Bool) (what who much : Int) (S : fa_St) : fa_St := if th = true ∨ S.1 3 = 150 then S else (fa_up S.1 3 (S.1 3 + 1), fa_bk S.2 (S.1 3) (S.1 0) (S.1 1) what who much)
def fa_bought (th : Bool) (c s costs : Int) (S : fa_St) : fa_St :=
  fa_note th 0 c costs (fa_thing (fa_up (fa_up S.1 (88 + c) (S.1 (88 + c) - costs)) (28 + s) (pm_w32 (S.1 (28 + s) + costs))) c s, S.2)
def fa_draw (N : Int → Int) : Int → Int := fa_up N 2 (pm_w32 (pm_w32 (1664525 * N 2) + 1013904223))
def fa_dr (N : Int → Int) (k : Int) : Int := Int.tmod (pm_ushr (fa_draw N 2) 8) k
/-- whether it comes so, and the row behind that -/
def fa_so (th : Bool) (odds : Int) (N : Int → Int) : Bool := if th = true then decide (500 ≤ odds) else decide (0 < odds) && decide (fa_dr N 1000 < odds)
def fa_soN (th : Bool) (odds : Int) (N : Int → Int) : Int → Int := if th = true ∨ odds ≤ 0 then N else fa_draw N
/-! what the law is asked about -/
def fa_crowd (N : Int → Int) (s : Int) : Nat → Int
  | 0 => 0
  | k + 1 => fa_crowd N s k + if N (106 + (k : Int)) = s + 1 then 1 else 0
def fa_W (N pol : Int → Int) (m c s : Int) : Int → Int := fun i => if i = 0 then N (88 + c) else if i = 1 then pol c else if i = 2 then N (4 + s) else if i = 3 then N (16 + s) else if i = 4 then N (28 + s) else if i = 5 then N (76 + s) else if i = 6 then N (124 + c) else if i = 7 then fa_crowd N s m.toNat else if i = 8 then N 1 else if i = 9 then N (142 + c) else N 0
def fa_held (x lo hi : Int) : Int := if x < lo then lo else if hi < x then hi else x
/-- the law: of a word and what is asked about, what it tells if no line does -/
def fa_Lw : Type := Int → (Int → Int) → Int → Int
def fa_buys (t : fa_Lw) (N pol : Int → Int) (m c s : Int) : Int := fa_held (t 0 (fa_W N pol m c s) (600 - 40 * N 1)) 0 1000
def fa_yields (t : fa_Lw) (N pol : Int → Int) (m c s : Int) : Int := fa_held (t 1 (fa_W N pol m c s) (100 * pol c)) 0 1000
def fa_costs (t : fa_Lw) (N pol : Int → Int) (m c s : Int) : Int := fa_held (t 2 (fa_W N pol m c s) (N (16 + s))) 0 999
/-! an hour -/
def fa_deed (th : Bool) (k a b : Int) (S : fa_St) : fa_St :=
  if k = 0 then (fa_up S.1 (4 + a) b, S.2) else if k = 1 then (fa_up S.1 (16 + a) b, S.2) else if k = 2 then (fa_up S.1 (88 + a) (min 9999 (S.1 (88 + a) + b)), S.2)
  else if S.1 (4 + a) = 0 then S else fa_note th 1 b a (fa_thing S.1 b a, S.2)
def fa_opens (N : Int → Int) : Nat → Int → Int
  | 0 => N
  | k + 1 => fa_up (fa_up (fa_up (fa_opens N k) (40 + (k : Int)) 0) (52 + (k : Int)) 0) (64 + (k : Int)) 0
def fa_deeds (th : Bool) (D : Int → Int) : Nat → fa_St → fa_St
  | 0, S => S
  | k + 1, S => (fun S1 : fa_St => if D (4 * (k : Int)) = S1.1 0 then fa_deed th (D (4 * (k : Int) + 1)) (D (4 * (k : Int) + 2)) (D (4 * (k : Int) + 3)) S1 else S1) (fa_deeds th D k S)
def fa_rounds (R : Int → Int) (N : Int → Int) : Nat → Int → Int
  | 0 => N
  | k + 1 => (fun N1 : Int → Int => if R (3 * (k : Int) + 1) = N1 1 ∧ (R (3 * (k : Int) + 2) = 0 ∨ N1 (40 + (R (3 * (k : Int) + 2) - 1)) = 0) then fa_up N1 (106 + R (3 * (k : Int))) (R (3 * (k : Int) + 2)) else N1) (fa_rounds R N k)
/-- one customer's turn: behind it, and whether he bought -/
def fa_can (t : fa_Lw) (pol : Int → Int) (m : Int) (c : Int) (N : Int → Int) : Bool := decide (N (106 + c) ≠ 0) && decide (N (4 + (N (106 + c) - 1)) ≠ 0) && decide (fa_costs t N pol m c (N (106 + c) - 1) ≤ N (88 + c))
def fa_turn (th : Bool) (t : fa_Lw) (pol : Int → Int) (m : Int) (c : Int) (S : fa_St) : fa_St :=
  if fa_can t pol m c S.1 = true then
    (if fa_so th (fa_buys t S.1 pol m c (S.1 (106 + c) - 1)) S.1 = true then fa_bought th c (S.1 (106 + c) - 1) (fa_costs t S.1 pol m c (S.1 (106 + c) - 1)) (fa_soN th (fa_buys t S.1 pol m c (S.1 (106 + c) - 1)) S.1, S.2)
     else (fa_soN th (fa_buys t S.1 pol m c (S.1 (106 + c) - 1)) S.1, S.2))
  else S
def fa_did (th : Bool) (t : fa_Lw) (pol : Int → Int) (m : Int) (c : Int) (S : fa_St) : Int := if (fa_can t pol m c S.1 && fa_so th (fa_buys t S.1 pol m c (S.1 (106 + c) - 1)) S.1) = true then 1 else 0
def fa_turns (th : Bool) (t : fa_Lw) (pol : Int → Int) (m : Int) : Nat → fa_St → fa_St
  | 0, S => S
  | k + 1, S => fa_turn th t pol m (k : Int) (fa_turns th t pol m k S)
def fa_dids (th : Bool) (t : fa_Lw) (pol : Int → Int) (m : Int) : Nat → fa_St → Int
  | 0, _ => 0
  | k + 1, S => fa_dids th t pol m k S + fa_did th t pol m (k : Int) (fa_turns th t pol m k S)
/-- a shop's evening -/
def fa_stays (th : Bool) (s : Int) (S : fa_St) : fa_St := fa_note th 4 s (pm_w32 (S.1 (76 + s) + 1)) (fa_up S.1 (76 + s) (pm_w32 (S.1 (76 + s) + 1)), S.2)
def fa_pole (th : Bool) (c s : Int) (S : fa_St) : fa_St := fa_note th 3 c s (fa_up (fa_up (fa_up S.1 (124 + c) (pm_w32 (S.1 (124 + c) + 1))) (40 + s) 1) (76 + s) 0, S.2)
def fa_one (th : Bool) (c s : Int) (S : fa_St) : fa_St := if c = -1 then fa_stays th s S else fa_pole th c s S
def fa_shut (th : Bool) (t : fa_Lw) (pol : Int → Int) (m : Int) (s : Int) (S : fa_St) : fa_St :=
  if S.1 (52 + s) = 0 then fa_stays th s S
  else if fa_so th (fa_yields t S.1 pol m (S.1 (52 + s) - 1) s) S.1 = true then
    (fun S1 : fa_St => fa_one th (S1.1 (64 + s) - 1) s S1) (fa_note th 2 (S.1 (52 + s) - 1) s (fa_soN th (fa_yields t S.1 pol m (S.1 (52 + s) - 1) s) S.1, S.2))
  else fa_pole th (S.1 (52 + s) - 1) s (fa_soN th (fa_yields t S.1 pol m (S.1 (52 + s) - 1) s) S.1, S.2)
def fa_shuts (th : Bool) (t : fa_Lw) (pol : Int → Int) (m : Int) : Nat → fa_St → fa_St
  | 0, S => S
  | k + 1, S => fa_shut th t pol m (k : Int) (fa_shuts th t pol m k S)
def fa_outs (N : Int → Int) : Nat → Int → Int
  | 0 => N
  | k + 1 => fa_up (fa_outs N k) (106 + (k : Int)) 0
def fa_eve (th : Bool) (t : fa_Lw) (pol : Int → Int) (n m : Int) (S : fa_St) : fa_St :=
  (fun S1 : fa_St => (fun N1 : Int → Int => (fa_up (fa_up N1 1 0) 0 (pm_w32 (N1 0 + 1)), S1.2)) (fa_outs S1.1 m.toNat)) (fa_shuts th t pol m n.toNat S)
def fa_morn (th : Bool) (D : Int → Int) (dn : Int) (n : Int) (S : fa_St) : fa_St := if S.1 1 = 0 then fa_deeds th D dn.toNat (fa_opens S.1 n.toNat, S.2) else S
def fa_to (th : Bool) (R D : Int → Int) (rn dn n : Int) (S : fa_St) : fa_St := (fun S1 : fa_St => (fa_rounds R S1.1 rn.toNat, S1.2)) (fa_morn th D dn n S)
def fa_hour (th : Bool) (t : fa_Lw) (R D pol : Int → Int) (rn dn n m : Int) (S : fa_St) : fa_St :=
  (fun S1 : fa_St => if S1.1 1 = 11 then fa_eve th t pol n m S1 else (fa_up S1.1 1 (S1.1 1 + 1), S1.2)) (fa_turns th t pol m m.toNat (fa_to th R D rn dn n S))
def fa_many (th : Bool) (t : fa_Lw) (R D pol : Int → Int) (rn dn n m : Int) (S : fa_St) : Int := fa_dids th t pol m m.toNat (fa_to th R D rn dn n S)
