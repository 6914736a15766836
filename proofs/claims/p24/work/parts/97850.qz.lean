/-! errands in their order: those that are served in time; the least time by which so many are through (a choice of places; the table that is kept) -/
def zqT (g : Nat → Int) (c : Nat → Bool) : Nat → Int
  | 0 => 0
  | i + 1 => zqT g c i + if c i = true then g i else 0
def zqN (c : Nat → Bool) : Nat → Nat
  | 0 => 0
  | i + 1 => zqN c i + if c i = true then 1 else 0
/-- by how much those chosen are late -/
def zqL (g d : Nat → Int) (c : Nat → Bool) : Nat → Int
  | 0 => 0
  | i + 1 => zqL g d c i + if c i = true then max 0 (zqT g c i + g i - d i) else 0
theorem zqT_congr {g : Nat → Int} {c c' : Nat → Bool} : ∀ {i : Nat}, (∀ j, j < i → c j = c' j) → zqT g c i = zqT g c' i
  | 0, _ => rfl
  | i + 1, h => by
    show zqT g c i + (if c i = true then g i else 0) = zqT g c' i + (if c' i = true then g i else 0)
    rw [zqT_congr (fun j hj => h j (by omega)), h i (by omega)]
theorem zqN_congr {c c' : Nat → Bool} : ∀ {i : Nat}, (∀ j, j < i → c j = c' j) → zqN c i = zqN c' i
  | 0, _ => rfl
  | i + 1, h => by
    show zqN c i + (if c i = true then 1 else 0) = zqN c' i + (if c' i = true then 1 else 0)
    rw [zqN_congr (fun j hj => h j (by omega)), h i (by omega)]
theorem zqL_congr {g d : Nat → Int} {c c' : Nat → Bool} : ∀ {i : Nat}, (∀ j, j < i → c j = c' j) → zqL g d c i = zqL g d c' i
  | 0, _ => rfl
  | i + 1, h => by
    show zqL g d c i + (if c i = true then max 0 (zqT g c i + g i - d i) else 0) = zqL g d c' i + (if c' i = true then max 0 (zqT g c' i + g i - d i) else 0)
    rw [zqL_congr (fun j hj => h j (by omega)), zqT_congr (fun j hj => h j (by omega)), h i (by omega)]
theorem zqL_nn {g d : Nat → Int} {c : Nat → Bool} : ∀ {i : Nat}, 0 ≤ zqL g d c i
  | 0 => Int.le_refl _
  | i + 1 => by
    have ih := zqL_nn (g := g) (d := d) (c := c) (i := i)
    show 0 ≤ zqL g d c i + (if c i = true then max 0 (zqT g c i + g i - d i) else 0)
    split <;> omega
def zqx (c : Nat → Bool) (i : Nat) (b : Bool) : Nat → Bool := fun j => if j = i then b else c j
theorem zqx_i {c : Nat → Bool} {i : Nat} {b : Bool} : zqx c i b i = b := if_pos rfl
theorem zqx_lt {c : Nat → Bool} {i j : Nat} {b : Bool} (h : j < i) : c j = zqx c i b j := (if_neg (by omega)).symm
theorem zqx_t {g d : Nat → Int} {c : Nat → Bool} {i : Nat} : zqT g (zqx c i true) (i + 1) = zqT g c i + g i ∧ zqN (zqx c i true) (i + 1) = zqN c i + 1 ∧ zqL g d (zqx c i true) (i + 1) = zqL g d c i + max 0 (zqT g c i + g i - d i) := by
  have e1 := zqT_congr (g := g) (c := c) (c' := zqx c i true) (i := i) (fun j hj => zqx_lt hj)
  have e2 := zqN_congr (c := c) (c' := zqx c i true) (i := i) (fun j hj => zqx_lt hj)
  have e3 := zqL_congr (g := g) (d := d) (c := c) (c' := zqx c i true) (i := i) (fun j hj => zqx_lt hj)
  refine ⟨?_, ?_, ?_⟩
  · show zqT g (zqx c i true) i + (if zqx c i true i = true then g i else 0) = _
    rw [← e1, zqx_i, if_pos rfl]
  · show zqN (zqx c i true) i + (if zqx c i true i = true then 1 else 0) = _
    rw [← e2, zqx_i, if_pos rfl]
  · show zqL g d (zqx c i true) i + (if zqx c i true i = true then max 0 (zqT g (zqx c i true) i + g i - d i) else 0) = _
    rw [← e3, ← e1, zqx_i, if_pos rfl]
theorem zqx_f {g d : Nat → Int} {c : Nat → Bool} {i : Nat} : zqT g (zqx c i false) (i + 1) = zqT g c i ∧ zqN (zqx c i false) (i + 1) = zqN c i ∧ zqL g d (zqx c i false) (i + 1) = zqL g d c i := by
  have e1 := zqT_congr (g := g) (c := c) (c' := zqx c i false) (i := i) (fun j hj => zqx_lt hj)
  have e2 := zqN_congr (c := c) (c' := zqx c i false) (i := i) (fun j hj => zqx_lt hj)
  have e3 := zqL_congr (g := g) (d := d) (c := c) (c' := zqx c i false) (i := i) (fun j hj => zqx_lt hj)
  refine ⟨?_, ?_, ?_⟩
  · show zqT g (zqx c i false) i + (if zqx c i false i = true then g i else 0) = _
    rw [← e1, zqx_i, if_neg (by decide), Int.add_zero]
  · show zqN (zqx c i false) i + (if zqx c i false i = true then 1 else 0) = _
    rw [← e2, zqx_i, if_neg (by decide), Nat.add_zero]
  · show zqL g d (zqx c i false) i + (if zqx c i false i = true then max 0 (zqT g (zqx c i false) i + g i - d i) else 0) = _
    rw [← e3, zqx_i, if_neg (by decide), Int.add_zero]
/-- the table tells the least time of so many, and how many at most -/
def zqI (g d : Nat → Int) (i most : Nat) (ls : Nat → Int) : Prop := (∀ c, zqL g d c i = 0 → zqN c i ≤ most ∧ ls (zqN c i) ≤ zqT g c i) ∧ ∀ m, m ≤ most → ∃ c, zqL g d c i = 0 ∧ zqN c i = m ∧ zqT g c i = ls m
theorem zqI_0 {g d : Nat → Int} {ls : Nat → Int} (h : ls 0 = 0) : zqI g d 0 0 ls :=
  ⟨fun c _ => ⟨Nat.le_refl _, by show ls 0 ≤ 0; omega⟩, fun m hm => ⟨fun _ => false, rfl, by show 0 = m; omega, by rw [show m = 0 by omega, h]; rfl⟩⟩
theorem zqI_s {g d : Nat → Int} {i most : Nat} {ls ls' : Nat → Int} (h : zqI g d i most ls) (h0 : ls' 0 = ls 0) (hm : ∀ m, m < most → ls' (m + 1) = if ls m + g i ≤ d i then min (ls (m + 1)) (ls m + g i) else ls (m + 1)) (ho : ls most + g i ≤ d i → ls' (most + 1) = ls most + g i) : zqI g d (i + 1) (if ls most + g i ≤ d i then most + 1 else most) ls' := by
  obtain ⟨ha, hb⟩ := h
  have hle : ∀ m, m ≤ most → ls' m ≤ ls m := fun m hm1 => by
    cases m with
    | zero => omega
    | succ m =>
      have := hm m (by omega)
      split at this <;> omega
  refine ⟨fun c hc => ?_, fun m hm1 => ?_⟩
  · have hc : zqL g d c i + (if c i = true then max 0 (zqT g c i + g i - d i) else 0) = 0 := hc
    have hn := zqL_nn (g := g) (d := d) (c := c) (i := i)
    show zqN c i + (if c i = true then 1 else 0) ≤ _ ∧ ls' (zqN c i + (if c i = true then 1 else 0)) ≤ zqT g c i + (if c i = true then g i else 0)
    by_cases hci : c i = true
    · rw [if_pos hci] at hc ⊢
      rw [if_pos hci]
      obtain ⟨a1, a2⟩ := ha c (by omega)
      by_cases hmo : zqN c i = most
      · rw [hmo] at a2 ⊢
        have hone : ls most + g i ≤ d i := by omega
        rw [if_pos hone, ho hone]
        exact ⟨Nat.le_refl _, by omega⟩
      · have e := hm (zqN c i) (by omega)
        rw [if_pos (show ls (zqN c i) + g i ≤ d i by omega)] at e
        refine ⟨by split <;> omega, by omega⟩
    · rw [if_neg hci] at hc ⊢
      rw [if_neg hci]
      obtain ⟨a1, a2⟩ := ha c (by omega)
      have := hle _ a1
      exact ⟨by split <;> omega, by rw [Nat.add_zero, Int.add_zero]; omega⟩
  · by_cases hmo : m = most + 1
    · subst hmo
      have hone : ls most + g i ≤ d i := by
        by_cases h1 : ls most + g i ≤ d i
        · exact h1
        · rw [if_neg h1] at hm1; omega
      obtain ⟨c, c1, c2, c3⟩ := hb most (Nat.le_refl _)
      obtain ⟨t1, t2, t3⟩ := zqx_t (g := g) (d := d) (c := c) (i := i)
      exact ⟨zqx c i true, by rw [t3]; omega, by rw [t2, c2], by rw [t1, ho hone]; omega⟩
    · have hm2 : m ≤ most := by
        split at hm1 <;> omega
      obtain ⟨c, c1, c2, c3⟩ := hb m hm2
      obtain ⟨f1, f2, f3⟩ := zqx_f (g := g) (d := d) (c := c) (i := i)
      by_cases hs : ls' m = ls m
      · exact ⟨zqx c i false, by rw [f3]; exact c1, by rw [f2]; exact c2, by rw [f1, hs]; exact c3⟩
      · cases m with
        | zero => exact absurd h0 hs
        | succ m =>
          have e := hm m (by omega)
          by_cases h1 : ls m + g i ≤ d i
          · rw [if_pos h1] at e
            obtain ⟨c', u1, u2, u3⟩ := hb m (by omega)
            obtain ⟨t1, t2, t3⟩ := zqx_t (g := g) (d := d) (c := c') (i := i)
            exact ⟨zqx c' i true, by rw [t3]; omega, by rw [t2, u2], by rw [t1, u3]; omega⟩
          · rw [if_neg h1] at e
            exact absurd e hs
/-- the most that are served in time: no choice has more, some choice has so many -/
theorem zqI_most {g d : Nat → Int} {i most : Nat} {ls : Nat → Int} (h : zqI g d i most ls) : (∀ c, zqL g d c i = 0 → zqN c i ≤ most) ∧ ∃ c, zqL g d c i = 0 ∧ zqN c i = most :=
  ⟨fun c hc => (h.1 c hc).1, by obtain ⟨c, c1, c2, -⟩ := h.2 most (Nat.le_refl _); exact ⟨c, c1, c2⟩⟩
/-- bits at will -/
theorem zqB (b : Nat → Bool) : ∀ n : Nat, ∃ s : Nat, s < 2 ^ n ∧ ∀ e, e < n → s.testBit e = b e
  | 0 => ⟨0, by decide, fun e he => absurd he (Nat.not_lt_zero _)⟩
  | n + 1 => by
    obtain ⟨s, s1, s2⟩ := zqB b n
    cases hb : b n with
    | false =>
      refine ⟨s, by rw [Nat.pow_succ]; omega, fun e he => ?_⟩
      by_cases hen : e = n
      · rw [hen, hb]
        exact Nat.testBit_lt_two_pow s1
      · exact s2 e (by omega)
    | true =>
      refine ⟨2 ^ n + s, by rw [Nat.pow_succ]; omega, fun e he => ?_⟩
      by_cases hen : e = n
      · rw [hen, hb, Nat.testBit_two_pow_add_eq, Nat.testBit_lt_two_pow s1]
        rfl
      · rw [Nat.testBit_two_pow_add_gt (by omega)]
        exact s2 e (by omega)
/-! sums over an order of all places; two orders by the same key are the same -/
def zqS (f : Nat → Nat) : Nat → Nat
  | 0 => 0
  | n + 1 => zqS f n + f n
theorem zqS_congr {f g : Nat → Nat} : ∀ {n : Nat}, (∀ j, j < n → f j = g j) → zqS f n = zqS g n
  | 0, _ => rfl
  | n + 1, h => by
    show zqS f n + f n = zqS g n + g n
    rw [zqS_congr (fun j hj => h j (by omega)), h n (by omega)]
theorem zqS_upd {f : Nat → Nat} {j0 v : Nat} : ∀ {n : Nat}, j0 < n → zqS (fun j => if j = j0 then v else f j) n + f j0 = zqS f n + v
  | 0, h => absurd h (Nat.not_lt_zero _)
  | n + 1, h => by
    show zqS (fun j => if j = j0 then v else f j) n + (if n = j0 then v else f n) + f j0 = zqS f n + f n + v
    by_cases hn : n = j0
    · rw [if_pos hn, zqS_congr (f := fun j => if j = j0 then v else f j) (g := f) (fun j hj => if_neg (by omega)), hn]
      omega
    · rw [if_neg hn]
      have := zqS_upd (f := f) (j0 := j0) (v := v) (n := n) (by omega)
      omega
theorem zqP (f : Nat → Nat) : ∀ (n : Nat) (o : Nat → Nat), (∀ j, j < n → o j < n) → (∀ i j, i < n → j < n → o i = o j → i = j) → (∀ e, e < n → ∃ j, j < n ∧ o j = e) → zqS (fun j => f (o j)) n = zqS f n
  | 0, _, _, _, _ => rfl
  | n + 1, o, h1, h2, h3 => by
    obtain ⟨j0, hj0, ho⟩ := h3 n (by omega)
    show zqS (fun j => f (o j)) n + f (o n) = zqS f n + f n
    by_cases hn : j0 = n
    · subst hn
      have := zqP f j0 o (fun j hj => by
        have a := h1 j (by omega)
        have b : o j ≠ j0 := fun q => by have := h2 j j0 (by omega) (by omega) (by rw [q, ho]); omega
        omega) (fun i j hi hj => h2 i j (by omega) (by omega)) (fun e he => by
        obtain ⟨j, j1, j2⟩ := h3 e (by omega)
        refine ⟨j, ?_, j2⟩
        by_cases hj : j = j0
        · rw [hj, ho] at j2; omega
        · omega)
      rw [this, ho]
    · have hlt : j0 < n := by omega
      have hon : o n ≠ n := fun q => hn (h2 j0 n (by omega) (by omega) (by rw [ho, q]))
      have := zqP f n (fun j => if j = j0 then o n else o j) (fun j hj => by
        show (if j = j0 then o n else o j) < n
        split
        · have a := h1 n (by omega)
          omega
        · rename_i hj2
          have a := h1 j (by omega)
          have b : o j ≠ n := fun q => hj2 (h2 j j0 (by omega) (by omega) (by rw [q, ho]))
          omega) (fun i j hi hj q => by
        have q : (if i = j0 then o n else o i) = (if j = j0 then o n else o j) := q
        split at q <;> split at q
        · omega
        · have := h2 n j (by omega) (by omega) q; omega
        · have := h2 i n (by omega) (by omega) q; omega
        · exact h2 i j (by omega) (by omega) q) (fun e he => by
        obtain ⟨j, j1, j2⟩ := h3 e (by omega)
        by_cases hj : j = n
        · exact ⟨j0, hlt, by show (if j0 = j0 then o n else o j0) = e; rw [if_pos rfl, ← j2, hj]⟩
        · refine ⟨j, by omega, ?_⟩
          show (if j = j0 then o n else o j) = e
          rw [if_neg (fun q => by rw [q, ho] at j2; omega)]
          exact j2)
      have e1 : zqS (fun j => f (if j = j0 then o n else o j)) n = zqS (fun j => if j = j0 then f (o n) else f (o j)) n := zqS_congr (fun j _ => by
        show f (if j = j0 then o n else o j) = if j = j0 then f (o n) else f (o j)
        split <;> rfl)
      have e2 := zqS_upd (f := fun j => f (o j)) (j0 := j0) (v := f (o n)) hlt
      have e2 : zqS (fun j => if j = j0 then f (o n) else f (o j)) n + f (o j0) = zqS (fun j => f (o j)) n + f (o n) := e2
      rw [← e1, this, ho] at e2
      exact e2.symm
/-- how many are chosen, by place or by bit -/
theorem zqN_S (c : Nat → Bool) : ∀ n, zqN c n = zqS (fun j => if c j = true then 1 else 0) n
  | 0 => rfl
  | n + 1 => by
    show zqN c n + _ = zqS _ n + _
    rw [zqN_S c n]
/-- ahead in the order: by due, then as told -/
def zqK (d : Nat → Int) (a b : Nat) : Prop := d a < d b ∨ (d a = d b ∧ a < b)
/-- an order of n: all places, each once, each ahead of those behind it -/
def zqO (d : Nat → Int) (n : Nat) (o : Nat → Nat) : Prop := (∀ j, j < n → o j < n) ∧ (∀ e, e < n → ∃ j, j < n ∧ o j = e) ∧ ∀ i j, i < j → j < n → zqK d (o i) (o j)
theorem zqO_inj {d : Nat → Int} {n : Nat} {o : Nat → Nat} (h : zqO d n o) : ∀ i j, i < n → j < n → o i = o j → i = j := fun i j hi hj e => by
  by_cases h1 : i < j
  · have := h.2.2 i j h1 hj
    rw [e] at this
    unfold zqK at this
    omega
  · by_cases h2 : j < i
    · have := h.2.2 j i h2 hi
      rw [e] at this
      unfold zqK at this
      omega
    · omega
theorem zqO_un {d : Nat → Int} {n : Nat} {o o' : Nat → Nat} (h : zqO d n o) (h' : zqO d n o') : ∀ k, k < n → o k = o' k := fun k => by
  induction k using Nat.strongRecOn with
  | ind k ih =>
    intro hk
    -- where the other has it
    obtain ⟨a, a1, a2⟩ := h'.2.1 (o k) (h.1 k hk)
    obtain ⟨b, b1, b2⟩ := h.2.1 (o' k) (h'.1 k hk)
    have ha : k ≤ a := by
      by_cases hak : a < k
      · have e := ih a hak (by omega)
        have := zqO_inj h a k (by omega) hk (by rw [e, a2])
        omega
      · omega
    have hb : k ≤ b := by
      by_cases hbk : b < k
      · have e := ih b hbk (by omega)
        have := zqO_inj h' b k (by omega) hk (by rw [← e, b2])
        omega
      · omega
    by_cases ha2 : a = k
    · rw [ha2] at a2
      exact a2.symm
    · by_cases hb2 : b = k
      · rw [hb2] at b2
        exact b2
      · have u := h'.2.2 k a (by omega) a1
        have w := h.2.2 k b (by omega) b1
        rw [a2] at u
        rw [b2] at w
        unfold zqK at u w
        omega
/-- a set told by its bits: by how much it is late, how many it has -/
def zqLt (a d : Nat → Int) (o : Nat → Nat) (n s : Nat) : Int := zqL (fun j => a (o j)) (fun j => d (o j)) (fun j => s.testBit (o j)) n
def zqOn (n s : Nat) : Nat := zqS (fun e => if s.testBit e = true then 1 else 0) n
theorem zqOn_N {d : Nat → Int} {o : Nat → Nat} {n : Nat} (ho : zqO d n o) (s : Nat) : zqN (fun j => s.testBit (o j)) n = zqOn n s := by
  rw [zqN_S]
  exact zqP (fun e => if s.testBit e = true then 1 else 0) n o ho.1 (zqO_inj ho) ho.2.1
theorem zqM {a d : Nat → Int} {o : Nat → Nat} {n most M : Nat} {ls : Nat → Int} (ho : zqO d n o) (hI : zqI (fun j => a (o j)) (fun j => d (o j)) n most ls) (h1 : ∀ s, s < 2 ^ n → zqLt a d o n s = 0 → zqOn n s ≤ M) (h2 : M = 0 ∨ ∃ s, s < 2 ^ n ∧ zqLt a d o n s = 0 ∧ zqOn n s = M) : M = most := by
  obtain ⟨m1, c, c1, c2⟩ := zqI_most hI
  have hle : M ≤ most := by
    rcases h2 with h | ⟨s, -, s2, s3⟩
    · omega
    · have := m1 (fun j => s.testBit (o j)) s2
      rw [zqOn_N ho s, s3] at this
      exact this
  have hge : most ≤ M := by
    obtain ⟨s, s1, s2⟩ := zqB (fun e => (List.range n).any (fun j => o j == e && c j)) n
    have hc : ∀ j, j < n → s.testBit (o j) = c j := fun j hj => by
      rw [s2 (o j) (ho.1 j hj)]
      cases hcj : c j with
      | true => exact List.any_eq_true.mpr ⟨j, List.mem_range.mpr hj, by rw [hcj]; simp⟩
      | false =>
        refine List.any_eq_false.mpr (fun i hi hb => ?_)
        obtain ⟨b1, b2⟩ := Bool.and_eq_true_iff.mp hb
        have := zqO_inj ho i j (List.mem_range.mp hi) hj (by simpa using b1)
        rw [this, hcj] at b2
        cases b2
    have e1 : zqLt a d o n s = 0 := by
      unfold zqLt
      rw [zqL_congr hc]
      exact c1
    have e2 : zqOn n s = most := by
      rw [← zqOn_N ho s, zqN_congr hc]
      exact c2
    have := h1 s s1 e1
    omega
  omega
