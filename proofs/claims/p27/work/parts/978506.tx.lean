/-! threads side by side: stretches, as numbers and as bits; what the walks keep -/
def zim (f t : Nat) : Nat := 2 ^ (t + 1) - 2 ^ f
def zbs (s : Nat) : Bool := (List.range 8).any (fun f => (List.range 8).any (fun t => decide (f ≤ t) && decide (s = zim f t)))
theorem zbs_ok {s : Nat} : zbs s = true ↔ ∃ f t, f ≤ t ∧ t < 8 ∧ s = zim f t := by
  unfold zbs
  simp only [List.any_eq_true, List.mem_range, Bool.and_eq_true, decide_eq_true_eq]
  exact ⟨fun ⟨f, h1, t, h2, h3, h4⟩ => ⟨f, t, h3, h2, h4⟩, fun ⟨f, t, h3, h2, h4⟩ => ⟨f, by omega, t, h2, h3, h4⟩⟩
set_option maxRecDepth 100000 in
theorem zbs_e : ∀ v, v < 256 → v ≠ 0 → v % 2 = 0 → zbs (v / 2) = zbs v := by decide +kernel
set_option maxRecDepth 100000 in
theorem zbs_o : ∀ v, v < 256 → v % 2 = 1 → decide (v &&& (v + 1) = 0) = zbs v := by decide +kernel
theorem zall_r {P : Nat → Bool} {n : Nat} (h : (List.range n).all P = true) (k : Nat) (hk : k < n) : P k = true := List.all_eq_true.mp h k (List.mem_range.mpr hk)
def zim_pairB (p q v : Nat) : Bool := if p ≤ q ∧ v / 8 ≤ v % 8 ∧ zim p q &&& zim (v / 8) (v % 8) = 0 ∧ zbs (zim p q ||| zim (v / 8) (v % 8)) = true then decide (q + 1 = v / 8 ∨ v % 8 + 1 = p) else true
set_option maxRecDepth 100000 in
theorem zim_pair1 : (List.range 8).all (fun p => (List.range 8).all (fun q => (List.range 64).all (fun v => zim_pairB p q v))) = true := by decide +kernel
theorem zim_pair0 (p : Nat) (hp : p < 8) (q : Nat) (hq : q < 8) (v : Nat) (hv : v < 64) (h : p ≤ q ∧ v / 8 ≤ v % 8 ∧ zim p q &&& zim (v / 8) (v % 8) = 0 ∧ zbs (zim p q ||| zim (v / 8) (v % 8)) = true) : q + 1 = v / 8 ∨ v % 8 + 1 = p := by
  have h9 := zall_r (zall_r (zall_r zim_pair1 p hp) q hq) v hv
  unfold zim_pairB at h9
  rw [if_pos h] at h9
  exact of_decide_eq_true h9
theorem zim_pair (p : Nat) (hp : p < 8) (q : Nat) (hq : q < 8) (pq : p ≤ q) (r : Nat) (hr : r < 8) (u : Nat) (hu : u < 8) (ru : r ≤ u) (h1 : zim p q &&& zim r u = 0) (h2 : zbs (zim p q ||| zim r u) = true) : q + 1 = r ∨ u + 1 = p := by
  have e1 : (8 * r + u) / 8 = r := by omega
  have e2 : (8 * r + u) % 8 = u := by omega
  have h := zim_pair0 p hp q hq (8 * r + u) (by omega) (by rw [e1, e2]; exact ⟨pq, ru, h1, h2⟩)
  rw [e1, e2] at h
  exact h
set_option maxRecDepth 100000 in
theorem zim_join0 : ∀ p, p < 8 → ∀ q, q < 8 → ∀ u, u < 8 → (p ≤ q ∧ q + 1 ≤ u) → (zim p q ||| zim (q + 1) u = zim p u ∧ zim p q &&& zim (q + 1) u = 0) := by decide +kernel
theorem zim_join (p : Nat) (hp : p < 8) (q : Nat) (hq : q < 8) (u : Nat) (hu : u < 8) (h1 : p ≤ q) (h2 : q + 1 ≤ u) : zim p q ||| zim (q + 1) u = zim p u ∧ zim p q &&& zim (q + 1) u = 0 := zim_join0 p hp q hq u hu ⟨h1, h2⟩
def zim_injB (f t v : Nat) : Bool := if f ≤ t ∧ v / 8 ≤ v % 8 ∧ zim f t = zim (v / 8) (v % 8) then decide (f = v / 8 ∧ t = v % 8) else true
set_option maxRecDepth 100000 in
theorem zim_inj1 : (List.range 8).all (fun f => (List.range 8).all (fun t => (List.range 64).all (fun v => zim_injB f t v))) = true := by decide +kernel
theorem zim_inj0 (f : Nat) (hf : f < 8) (t : Nat) (ht : t < 8) (v : Nat) (hv : v < 64) (h : f ≤ t ∧ v / 8 ≤ v % 8 ∧ zim f t = zim (v / 8) (v % 8)) : f = v / 8 ∧ t = v % 8 := by
  have h9 := zall_r (zall_r (zall_r zim_inj1 f hf) t ht) v hv
  unfold zim_injB at h9
  rw [if_pos h] at h9
  exact of_decide_eq_true h9
theorem zim_inj (f : Nat) (hf : f < 8) (t : Nat) (ht : t < 8) (h1 : f ≤ t) (p : Nat) (hp : p < 8) (q : Nat) (hq : q < 8) (h2 : p ≤ q) (h3 : zim f t = zim p q) : f = p ∧ t = q := by
  have e1 : (8 * p + q) / 8 = p := by omega
  have e2 : (8 * p + q) % 8 = q := by omega
  have h := zim_inj0 f hf t ht (8 * p + q) (by omega) (by rw [e1, e2]; exact ⟨h1, h2, h3⟩)
  rw [e1, e2] at h
  exact h
def zim_preB (f t e : Nat) : Bool := if f ≤ t ∧ t < 8 then decide (zim f t ||| (2 ^ f - 1) = 2 ^ (t + 1) - 1 ∧ zim f t &&& (2 ^ f - 1) = 0 ∧ zim f t ≠ 0 ∧ (f < t → zim f t ≠ 2 ^ e)) else true
set_option maxRecDepth 100000 in
theorem zim_pre1 : (List.range 8).all (fun f => (List.range 8).all (fun t => (List.range 8).all (fun e => zim_preB f t e))) = true := by decide +kernel
theorem zim_pre0 (f : Nat) (hf : f < 8) (t : Nat) (ht : t < 8) (e : Nat) (he : e < 8) (h : f ≤ t ∧ t < 8) : zim f t ||| (2 ^ f - 1) = 2 ^ (t + 1) - 1 ∧ zim f t &&& (2 ^ f - 1) = 0 ∧ zim f t ≠ 0 ∧ (f < t → zim f t ≠ 2 ^ e) := by
  have h9 := zall_r (zall_r (zall_r zim_pre1 f hf) t ht) e he
  unfold zim_preB at h9
  rw [if_pos h] at h9
  exact of_decide_eq_true h9
theorem zim_pre (f : Nat) (hf : f < 8) (t : Nat) (ht : t < 8) (h : f ≤ t) : zim f t ||| (2 ^ f - 1) = 2 ^ (t + 1) - 1 ∧ zim f t &&& (2 ^ f - 1) = 0 ∧ zim f t ≠ 0 ∧ (f < t → ∀ e, e < 8 → zim f t ≠ 2 ^ e) := by
  obtain ⟨a, b, c, -⟩ := zim_pre0 f hf t ht 0 (by decide) ⟨h, ht⟩
  exact ⟨a, b, c, fun hlt e he => (zim_pre0 f hf t ht e he ⟨h, ht⟩).2.2.2 hlt⟩
theorem zim_lt {f t n : Nat} (h : t < n) : zim f t < 2 ^ n := by
  have h1 : (2 : Nat) ^ (t + 1) ≤ 2 ^ n := Nat.pow_le_pow_right (by omega) h
  have h2 := Nat.two_pow_pos f
  have h3 := Nat.two_pow_pos (t + 1)
  unfold zim
  omega
theorem zim_f (f : Nat) : zim f f = 2 ^ f := by
  unfold zim
  rw [Nat.pow_succ]
  omega
/-- sums from the first on -/
def zss (w : Nat → Int) : Nat → Int
  | 0 => 0
  | n + 1 => zss w n + w n
theorem zss_w {w : Nat → Int} {m : Nat} : ∀ n, zhw w n (2 ^ m - 1) = zss w (min n m)
  | 0 => by rw [Nat.zero_min]; rfl
  | n + 1 => by
    show zhw w n (2 ^ m - 1) + (if (2 ^ m - 1).testBit n = true then w n else 0) = _
    rw [zss_w n, Nat.testBit_two_pow_sub_one]
    by_cases h : n < m
    · rw [Nat.min_eq_left (by omega), Nat.min_eq_left (by omega), if_pos (decide_eq_true h)]
      rfl
    · rw [Nat.min_eq_right (by omega), Nat.min_eq_right (by omega), if_neg (by simpa using h), Int.add_zero]
theorem zim_w {w : Nat → Int} {f t n : Nat} (hf : f ≤ t) (ht : t < n) (hn : n ≤ 8) : zhw w n (zim f t) = zss w (t + 1) - zss w f := by
  obtain ⟨h1, h2, -⟩ := zim_pre f (by omega) t (by omega) hf
  have e := zhw_or (w := w) h2 n
  rw [h1, zss_w, zss_w, Nat.min_eq_right (by omega), Nat.min_eq_right (by omega)] at e
  omega
/-- least costs of stretches -/
def zsQ (A : Nat → Int) (n : Nat) (c : Nat → Nat → Int) : Prop := (∀ f, f < n → c f f = 0) ∧ ∀ f t, f < t → t < n → (∀ m, f ≤ m → m < t → c f t ≤ c f m + c (m + 1) t + (A (t + 1) - A f)) ∧ ∃ m, f ≤ m ∧ m < t ∧ c f t = c f m + c (m + 1) t + (A (t + 1) - A f)
theorem zsQ_un {A : Nat → Int} {n : Nat} {c c' : Nat → Nat → Int} (h : zsQ A n c) (h' : zsQ A n c') : ∀ (k f t : Nat), t - f = k → f ≤ t → t < n → c f t = c' f t := fun k => by
  induction k using Nat.strongRecOn with
  | ind k ih =>
    intro f t hk hft htn
    by_cases he : f = t
    · subst he
      rw [h.1 f htn, h'.1 f htn]
    · obtain ⟨a1, m, a2, a3, a4⟩ := h.2 f t (by omega) htn
      obtain ⟨b1, m', b2, b3, b4⟩ := h'.2 f t (by omega) htn
      have x1 := a1 m' b2 b3
      have x2 := b1 m a2 a3
      rw [ih (m' - f) (by omega) f m' rfl b2 (by omega), ih (t - (m' + 1)) (by omega) (m' + 1) t rfl (by omega) htn] at x1
      rw [← ih (m - f) (by omega) f m rfl a2 (by omega), ← ih (t - (m + 1)) (by omega) (m + 1) t rfl (by omega) htn] at x2
      omega
/-! the reference: a set is done -/
abbrev zcn (q : Int) (s : Nat) : Prop := q = 0 ∨ zbs s = true
def zjs (w : Nat → Int) (n : Nat) (q : Int) (j : Nat → Int) (s : Nat) : Prop := (0 ≤ j s ∧ j s ≤ 100000000) ∧ ((∃ e, e < n ∧ s = 2 ^ e) → j s = 0) ∧ (¬ (∃ e, e < n ∧ s = 2 ^ e) → zcn q s → (∀ a b, a ≠ 0 → b ≠ 0 → a &&& b = 0 → a ||| b = s → zcn q a → zcn q b → j s ≤ j a + j b + zhw w n s) ∧ (j s = 100000000 ∨ ∃ a b, a ≠ 0 ∧ b ≠ 0 ∧ a &&& b = 0 ∧ a ||| b = s ∧ zcn q a ∧ zcn q b ∧ j s = j a + j b + zhw w n s))
theorem zh_nz {a : Nat} (h : a ≠ 0) : ∃ i, a.testBit i = true := Nat.exists_testBit_of_ne_zero h
theorem zh_two1 {a b e : Nat} (ha : a ≠ 0) (hb : b ≠ 0) (h : a &&& b = 0) : a ||| b ≠ 2 ^ e := fun q => by
  obtain ⟨i, hi⟩ := zh_nz ha
  obtain ⟨k, hk⟩ := zh_nz hb
  have e1 : (a ||| b).testBit i = true := by rw [Nat.testBit_or, hi]; rfl
  have e2 : (a ||| b).testBit k = true := by rw [Nat.testBit_or, hk, Bool.or_true]
  rw [q, Nat.testBit_two_pow] at e1 e2
  have e1 := of_decide_eq_true e1
  have e2 := of_decide_eq_true e2
  subst e1
  subst e2
  exact zh_bits h e ⟨hi, hk⟩
/-- freely: what the sets say is what joining the two shortest costs -/
theorem zj_free {w : Nat → Int} {n : Nat} {j : Nat → Int} (hw : ∀ e, 0 ≤ w e ∧ w e ≤ 99) (hn : 1 ≤ n) (hn8 : n ≤ 8) (h : ∀ s, s ≠ 0 → s < 2 ^ n → zjs w n 0 j s) {S : List Int} (hS : zhS S) (hp : S.Perm ((List.range n).map w)) : j (2 ^ n - 1) = zhH S.length S := by
  have h2 : zhP2 w n j := fun a b ha hb hab hlt => by
    have hle : a ≤ a ||| b := Nat.left_le_or
    exact ((h (a ||| b) (by omega) hlt).2.2 (fun ⟨e, _, q⟩ => zh_two1 ha hb hab q) (Or.inl rfl)).1 a b ha hb hab rfl (Or.inl rfl) (Or.inl rfl)
  have h0 : ∀ e, e < n → j (2 ^ e) = 0 := fun e he => (h (2 ^ e) (by have := Nat.two_pow_pos e; omega) (Nat.pow_lt_pow_right (by omega) he)).2.1 ⟨e, he, rfl⟩
  have h3 : zhP3 w n j := fun s hs hlt => by
    by_cases he : ∃ e, e < n ∧ s = 2 ^ e
    · exact Or.inl he
    · right
      rcases ((h s hs hlt).2.2 he (Or.inl rfl)).2 with q | ⟨a, b, a1, a2, a3, a4, -, -, a5⟩
      · have := zh_bd h2 h0 hw hn8 hs hlt
        omega
      · exact ⟨a, b, a1, a2, a3, a4, a5⟩
  exact zh_both h2 h3 h0 hn hS (by rw [zhL_all]; exact hp)
/-- side by side: what the sets say holds for stretches -/
theorem zj_side {w : Nat → Int} {n : Nat} {j : Nat → Int} (hw : ∀ e, 0 ≤ w e ∧ w e ≤ 99) (hn8 : n ≤ 8) (h : ∀ s, s ≠ 0 → s < 2 ^ n → zjs w n 1 j s) : zsQ (zss w) n (fun f t => j (zim f t)) := by
  have hc : ∀ f t, f ≤ t → t < 8 → zcn 1 (zim f t) := fun f t h1 h2 => Or.inr (zbs_ok.mpr ⟨f, t, h1, h2, rfl⟩)
  have hd : ∀ f t, f ≤ t → t < n → zjs w n 1 j (zim f t) := fun f t h1 h2 => h _ (zim_pre f (by omega) t (by omega) h1).2.2.1 (zim_lt h2)
  have hz : ∀ f, f < n → j (zim f f) = 0 := fun f hf => (hd f f (Nat.le_refl _) hf).2.1 ⟨f, hf, zim_f f⟩
  have hns : ∀ f t, f < t → t < n → ¬ ∃ e, e < n ∧ zim f t = 2 ^ e := fun f t h1 h2 ⟨e, he, q⟩ => (zim_pre f (by omega) t (by omega) (by omega)).2.2.2 h1 e (by omega) q
  have hle : ∀ f t, f < t → t < n → ∀ m, f ≤ m → m < t → j (zim f t) ≤ j (zim f m) + j (zim (m + 1) t) + (zss w (t + 1) - zss w f) := fun f t h1 h2 m m1 m2 => by
    obtain ⟨q1, q2⟩ := zim_join f (by omega) m (by omega) t (by omega) m1 (by omega)
    have := ((hd f t (by omega) h2).2.2 (hns f t h1 h2) (hc f t (by omega) (by omega))).1 (zim f m) (zim (m + 1) t) (zim_pre f (by omega) m (by omega) m1).2.2.1 (zim_pre (m + 1) (by omega) t (by omega) (by omega)).2.2.1 q2 q1 (hc f m m1 (by omega)) (hc (m + 1) t (by omega) (by omega))
    rw [zim_w (by omega) h2 hn8] at this
    exact this
  have hss : ∀ f t, f ≤ t → zss w t - zss w f ≤ 99 * ((t : Int) - (f : Int)) := fun f t => by
    induction t with
    | zero => intro h1; rw [show f = 0 by omega]; simp
    | succ t ih =>
      intro h1
      by_cases hf : f = t + 1
      · rw [hf]; omega
      · have := ih (by omega)
        have := (hw t).2
        show zss w t + w t - zss w f ≤ _
        omega
  have hb : ∀ (k f t : Nat), t - f = k → f ≤ t → t < n → j (zim f t) ≤ 800 * (k : Int) := fun k => by
    induction k with
    | zero =>
      intro f t h1 h2 h3
      obtain rfl : f = t := by omega
      rw [hz f h3]
      omega
    | succ k ih =>
      intro f t h1 h2 h3
      have a := hle f t (by omega) h3 f (Nat.le_refl _) (by omega)
      have b := ih (f + 1) t (by omega) (by omega) h3
      have c := hss f (t + 1) (by omega)
      rw [hz f (by omega)] at a
      omega
  refine ⟨hz, fun f t h1 h2 => ⟨hle f t h1 h2, ?_⟩⟩
  rcases ((hd f t (by omega) h2).2.2 (hns f t h1 h2) (hc f t (by omega) (by omega))).2 with q | ⟨a, b, a1, a2, a3, a4, a5, a6, a7⟩
  · have := hb (t - f) f t rfl (by omega) h2
    omega
  · rw [zim_w (by omega) h2 hn8] at a7
    have a5 : zbs a = true := by
      rcases a5 with q | q
      · exact absurd q (by decide)
      · exact q
    have a6 : zbs b = true := by
      rcases a6 with q | q
      · exact absurd q (by decide)
      · exact q
    obtain ⟨p, q, pq, q8, rfl⟩ := zbs_ok.mp a5
    obtain ⟨r, u, ru, u8, rfl⟩ := zbs_ok.mp a6
    have hbs : zbs (zim p q ||| zim r u) = true := by rw [a4]; exact zbs_ok.mpr ⟨f, t, by omega, by omega, rfl⟩
    rcases zim_pair p (by omega) q q8 pq r (by omega) u u8 ru a3 hbs with e | e
    · subst e
      obtain ⟨q1, -⟩ := zim_join p (by omega) q (by omega) u (by omega) pq (by omega)
      rw [q1] at a4
      obtain ⟨rfl, rfl⟩ := zim_inj p (by omega) u (by omega) (by omega) f (by omega) t (by omega) (by omega) a4
      exact ⟨q, pq, by omega, a7⟩
    · subst e
      obtain ⟨q1, -⟩ := zim_join r (by omega) u (by omega) q (by omega) ru (by omega)
      rw [Nat.or_comm, q1] at a4
      obtain ⟨rfl, rfl⟩ := zim_inj r (by omega) q (by omega) (by omega) f (by omega) t (by omega) (by omega) a4
      exact ⟨u, ru, by omega, by
        show j (zim r q) = j (zim r u) + j (zim (u + 1) q) + (zss w (q + 1) - zss w r)
        omega⟩
/-! the walks: rows as lists -/
def zwN (f : Int → Int) : Nat → Int := fun e => if e < 8 then f (e : Int) else 0
theorem zwN_at {f : Int → Int} {e : Nat} (h : e < 8) : zwN f e = f (e : Int) := if_pos h
theorem zwN_cg {f f' : Int → Int} (h : ∀ i : Int, 0 ≤ i → i < 8 → f i = f' i) : zwN f = zwN f' := by
  funext e
  unfold zwN
  split
  · exact h _ (by omega) (by omega)
  · rfl
theorem zwN_b {f : Int → Int} (h : ∀ i : Int, 0 ≤ i → i < 8 → 0 ≤ f i ∧ f i ≤ 99) : ∀ e, 0 ≤ zwN f e ∧ zwN f e ≤ 99 := fun e => by
  unfold zwN
  split
  · exact h _ (by omega) (by omega)
  · omega
def zrl (g : Int → Int) : Nat → List Int
  | 0 => []
  | k + 1 => g (k : Int) :: zrl g k
theorem zrl_cg {g g' : Int → Int} : ∀ {n : Nat}, (∀ x : Nat, x < n → g' (x : Int) = g (x : Int)) → zrl g' n = zrl g n
  | 0, _ => rfl
  | n + 1, h => by
    show g' (n : Int) :: zrl g' n = g (n : Int) :: zrl g n
    rw [h n (by omega), zrl_cg (fun x hx => h x (by omega))]
theorem zrl_ins {g g' : Int → Int} {v : Int} : ∀ (n i : Nat), i ≤ n → (∀ x : Nat, x < i → g' (x : Int) = g (x : Int)) → g' (i : Int) = v → (∀ x : Nat, i ≤ x → x < n → g' ((x + 1 : Nat) : Int) = g (x : Int)) → (∀ x : Nat, i ≤ x → x < n → g (x : Int) < v) → (i = 0 ∨ v ≤ g ((i - 1 : Nat) : Int)) → zrl g' (n + 1) = zhI v (zrl g n)
  | 0, i, hi, h1, h2, h3, h4, h5 => by
    obtain rfl : i = 0 := by omega
    show g' ((0 : Nat) : Int) :: [] = [v]
    rw [h2]
  | n + 1, i, hi, h1, h2, h3, h4, h5 => by
    by_cases he : i = n + 1
    · subst he
      show g' ((n + 1 : Nat) : Int) :: zrl g' (n + 1) = (if v ≤ g (n : Int) then v :: g (n : Int) :: zrl g n else g (n : Int) :: zhI v (zrl g n))
      rw [h2, zrl_cg h1, if_pos (by
        rcases h5 with h5 | h5
        · omega
        · exact h5)]
      rfl
    · have e := h4 n (by omega) (by omega)
      show g' ((n + 1 : Nat) : Int) :: zrl g' (n + 1) = (if v ≤ g (n : Int) then v :: g (n : Int) :: zrl g n else g (n : Int) :: zhI v (zrl g n))
      rw [if_neg (by omega), h3 n (by omega) (by omega), zrl_ins n i (by omega) h1 h2 (fun x x0 x1 => h3 x x0 (by omega)) (fun x x0 x1 => h4 x x0 (by omega)) h5]
def ztl (w : Nat → Int) : Nat → List Int
  | 0 => []
  | k + 1 => zhI (w k) (ztl w k)
theorem ztl_s {w : Nat → Int} : ∀ n, zhS (ztl w n)
  | 0 => List.Pairwise.nil
  | n + 1 => zhI_s _ _ (ztl_s n)
theorem ztl_p {w : Nat → Int} : ∀ n, (ztl w n).Perm ((List.range n).map w)
  | 0 => List.Perm.refl _
  | n + 1 => by
    rw [List.range_succ, List.map_append]
    exact (zhI_perm _ _).trans (((ztl_p n).cons (w n)).trans (List.perm_append_singleton _ _).symm)
theorem ztl_len {w : Nat → Int} (n : Nat) : (ztl w n).length = n := by
  rw [(ztl_p n).length_eq, List.length_map, List.length_range]
/-- both answers -/
def ztX (w : Nat → Int) (n : Nat) (q x : Int) : Prop := (q ≠ 0 ∧ q ≠ 1 → x = -1) ∧ (q = 0 → x = zhH n (ztl w n)) ∧ (q = 1 → (n < 2 → x = 0) ∧ (2 ≤ n → ∃ c, zsQ (zss w) n c ∧ x = c 0 (n - 1)))
def ztM (w : Nat → Int) (n : Nat) (q x : Int) : Prop := (q ≠ 0 ∧ q ≠ 1 → x = -1) ∧ (q = 0 ∨ q = 1 → (n < 2 → x = 0) ∧ (2 ≤ n → ∃ j : Nat → Int, (∀ s, s ≠ 0 → s < 2 ^ n → zjs w n q j s) ∧ x = j (2 ^ n - 1)))
theorem zt_eq {w : Nat → Int} {n : Nat} {q x y : Int} (hw : ∀ e, 0 ≤ w e ∧ w e ≤ 99) (hn : n ≤ 8) (h : ztX w n q x) (h' : ztM w n q y) : x = y := by
  by_cases q0 : q = 0
  · subst q0
    have e := h.2.1 rfl
    obtain ⟨a, b⟩ := h'.2 (Or.inl rfl)
    by_cases hn2 : n < 2
    · rw [e, a hn2]
      have : n = 0 ∨ n = 1 := by omega
      rcases this with rfl | rfl
      · rfl
      · rfl
    · obtain ⟨j, j1, j2⟩ := b (by omega)
      have := zj_free hw (by omega) hn j1 (ztl_s n) (ztl_p n)
      rw [ztl_len] at this
      rw [e, j2, this]
  · by_cases q1 : q = 1
    · subst q1
      obtain ⟨a, b⟩ := h.2.2 rfl
      obtain ⟨a', b'⟩ := h'.2 (Or.inr rfl)
      by_cases hn2 : n < 2
      · rw [a hn2, a' hn2]
      · obtain ⟨c, c1, c2⟩ := b (by omega)
        obtain ⟨j, j1, j2⟩ := b' (by omega)
        have e := zsQ_un c1 (zj_side hw hn j1) (n - 1 - 0) 0 (n - 1) rfl (by omega) (by omega)
        have e2 : zim 0 (n - 1) = 2 ^ n - 1 := by
          unfold zim
          rw [show n - 1 + 1 = n by omega]
        rw [c2, j2, ← e2]
        exact e
    · rw [h.1 ⟨q0, q1⟩, h'.1 ⟨q0, q1⟩]
