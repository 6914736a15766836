/-! threads side by side, the class's table; sums of a row -/
/-- one of n threads alone -/
def zpE (n s : Nat) : Prop := ∃ e, e < n ∧ s = 2 ^ e
theorem zss_b {w : Nat → Int} (hw : ∀ e, 0 ≤ w e ∧ w e ≤ 99) {f : Nat} : ∀ t, f ≤ t → 0 ≤ zss w t - zss w f ∧ zss w t - zss w f ≤ 99 * ((t : Int) - (f : Int))
  | 0, h => by rw [show f = 0 by omega]; omega
  | t + 1, h => by
    by_cases hf : f = t + 1
    · rw [hf]; omega
    · have := zss_b hw (f := f) t (by omega)
      have := hw t
      show 0 ≤ zss w t + w t - zss w f ∧ zss w t + w t - zss w f ≤ _
      omega
theorem ztl_sum {w : Nat → Int} : ∀ n, zhs (ztl w n) = zss w n
  | 0 => rfl
  | n + 1 => by
    show zhs (zhI (w n) (ztl w n)) = zss w n + w n
    rw [zhs_perm (zhI_perm _ _)]
    show w n + zhs (ztl w n) = _
    rw [ztl_sum n]
    omega
theorem ztl_nn {w : Nat → Int} (hw : ∀ e, 0 ≤ w e ∧ w e ≤ 99) {n : Nat} : ∀ x ∈ ztl w n, 0 ≤ x := fun x hx => by
  obtain ⟨e, -, rfl⟩ := List.mem_map.mp ((ztl_p n).subset hx)
  exact (hw e).1
def zsG (A : Nat → Int) (c : Nat → Nat → Int) (f t : Nat) : Prop := (0 ≤ c f t ∧ c f t ≤ 800 * ((t : Int) - (f : Int))) ∧ (f = t → c f t = 0) ∧ (f < t → (∀ m, f ≤ m → m < t → c f t ≤ c f m + c (m + 1) t + (A (t + 1) - A f)) ∧ ∃ m, f ≤ m ∧ m < t ∧ c f t = c f m + c (m + 1) t + (A (t + 1) - A f))
def zsE (A : Nat → Int) (n d fr : Nat) (c : Nat → Nat → Int) : Prop := ∀ f t, f ≤ t → t < n → (t - f < d ∨ (t - f = d ∧ f < fr)) → zsG A c f t
theorem zsE_0 {A : Nat → Int} {n : Nat} {c : Nat → Nat → Int} (h : ∀ f, f < n → c f f = 0) : zsE A n 1 0 c := fun f t h1 h2 h3 => by
  obtain rfl : f = t := by omega
  have := h f h2
  exact ⟨by omega, fun _ => this, fun h => absurd h (Nat.lt_irrefl _)⟩
theorem zsE_next {w : Nat → Int} {n d fr t : Nat} {c c' : Nat → Nat → Int} {x : Int} (hw : ∀ e, 0 ≤ w e ∧ w e ≤ 99) (hn : n ≤ 8) (hd : 1 ≤ d) (h : zsE (zss w) n d fr c) (ht : fr + d = t) (htn : t < n) (hc : ∀ f' t', f' ≤ t' → t' < n → ¬ (f' = fr ∧ t' = t) → c' f' t' = c f' t') (hx : c' fr t = x + (zss w (t + 1) - zss w fr)) (hl : ∀ m, fr ≤ m → m < t → x ≤ c fr m + c (m + 1) t) (he : ∃ m, fr ≤ m ∧ m < t ∧ x = c fr m + c (m + 1) t) : zsE (zss w) n d (fr + 1) c' := fun f t' h1 h2 h3 => by
  by_cases hq : f = fr ∧ t' = t
  · obtain ⟨rfl, rfl⟩ := hq
    have k1 : ∀ m, f ≤ m → m < t' → c' f m = c f m ∧ c' (m + 1) t' = c (m + 1) t' := fun m m0 m1 => ⟨hc f m m0 (by omega) (by omega), hc (m + 1) t' (by omega) h2 (by omega)⟩
    have hA := zss_b hw (f := f) (t' + 1) (by omega)
    refine ⟨?_, fun hh => by omega, fun hh => ⟨fun m m0 m1 => ?_, ?_⟩⟩
    · have g0 := h f f (Nat.le_refl _) (by omega) (Or.inl (by omega))
      have g1 := h (f + 1) t' (by omega) h2 (Or.inl (by omega))
      have l0 := hl f (Nat.le_refl _) (by omega)
      have z0 := g0.2.1 rfl
      obtain ⟨m, m0, m1, m2⟩ := he
      have g2 := h f m m0 (by omega) (Or.inl (by omega))
      have g3 := h (m + 1) t' (by omega) h2 (Or.inl (by omega))
      have := g1.1
      have := g2.1
      have := g3.1
      rw [hx]
      omega
    · obtain ⟨e1, e2⟩ := k1 m m0 m1
      have := hl m m0 m1
      rw [hx, e1, e2]
      omega
    · obtain ⟨m, m0, m1, m2⟩ := he
      obtain ⟨e1, e2⟩ := k1 m m0 m1
      exact ⟨m, m0, m1, by rw [hx, e1, e2, m2]⟩
  · have g := h f t' h1 h2 (by omega)
    have e0 := hc f t' h1 h2 hq
    refine ⟨by rw [e0]; exact g.1, fun hh => by rw [e0]; exact g.2.1 hh, fun hh => ?_⟩
    obtain ⟨g1, m, m0, m1, m2⟩ := g.2.2 hh
    have k1 : ∀ m, f ≤ m → m < t' → c' f m = c f m ∧ c' (m + 1) t' = c (m + 1) t' := fun m m0 m1 => ⟨hc f m m0 (by omega) (by omega), hc (m + 1) t' (by omega) h2 (by omega)⟩
    refine ⟨fun m m0 m1 => ?_, m, m0, m1, ?_⟩
    · rw [e0, (k1 m m0 m1).1, (k1 m m0 m1).2]
      exact g1 m m0 m1
    · rw [e0, (k1 m m0 m1).1, (k1 m m0 m1).2]
      exact m2
theorem zsE_wide {A : Nat → Int} {n d fr : Nat} {c : Nat → Nat → Int} (h : zsE A n d fr c) (hf : n ≤ fr + d) : zsE A n (d + 1) 0 c := fun f t h1 h2 h3 => h f t h1 h2 (by omega)
theorem zsE_Q {A : Nat → Int} {n d fr : Nat} {c : Nat → Nat → Int} (h : zsE A n d fr c) (hd : n ≤ d) : zsQ A n c :=
  ⟨fun f hf => (h f f (Nat.le_refl _) hf (Or.inl (by omega))).2.1 rfl, fun f t h1 h2 => (h f t (by omega) h2 (Or.inl (by omega))).2.2 h1⟩
def zcM (g : Int → Int) (k : Int) : Nat → Nat → Int := fun f t => g ((f : Int) * k + (t : Int))
theorem zpr {f k : Int} (h0 : 0 ≤ f) (h1 : f < k) (h2 : k ≤ 8) : 0 ≤ f * k ∧ f * k + k ≤ 64 := by
  have a := Int.mul_le_mul_of_nonneg_right (show f + 1 ≤ k by omega) (show 0 ≤ k by omega)
  have b := Int.mul_le_mul_of_nonneg_right h2 (show 0 ≤ k by omega)
  have c := Int.mul_nonneg h0 (show 0 ≤ k by omega)
  rw [Int.add_mul, Int.one_mul] at a
  omega
theorem zix {k a b c d : Int} (hb : 0 ≤ b ∧ b < k) (hd : 0 ≤ d ∧ d < k) (h : a * k + b = c * k + d) : a = c ∧ b = d := by
  have key : ∀ {a b c d : Int}, 0 ≤ b ∧ b < k → 0 ≤ d ∧ d < k → a * k + b = c * k + d → ¬ a < c := fun {a b c d} hb hd h hac => by
    have q := Int.mul_le_mul_of_nonneg_right (show a + 1 ≤ c by omega) (show 0 ≤ k by omega)
    rw [Int.add_mul, Int.one_mul] at q
    omega
  have h1 := key hb hd h
  have h2 := key hd hb h.symm
  have : a = c := by omega
  subst this
  exact ⟨rfl, by omega⟩
/-- the least so far, over the cuts from f to m -/
def zsm (c : Nat → Nat → Int) (f t m : Nat) (x : Int) : Prop := (∀ k, f ≤ k → k < m → x ≤ c f k + c (k + 1) t) ∧ (m = f → x = 1000000) ∧ (f < m → ∃ k, f ≤ k ∧ k < m ∧ x = c f k + c (k + 1) t) ∧ 0 ≤ x ∧ x ≤ 1000000
theorem zsm_0 (c : Nat → Nat → Int) (f t : Nat) : zsm c f t f 1000000 := ⟨fun k h1 h2 => absurd h2 (by omega), fun _ => rfl, fun h => absurd h (Nat.lt_irrefl _), by decide, by decide⟩
theorem zsm_b {c : Nat → Nat → Int} {f t m : Nat} {x : Int} (h : zsm c f t m x) : 0 ≤ x ∧ x ≤ 1000000 := h.2.2.2
theorem zsm_s {c : Nat → Nat → Int} {f t m : Nat} {x : Int} (h : zsm c f t m x) (hm : f ≤ m) (hb : 0 ≤ c f m + c (m + 1) t ∧ c f m + c (m + 1) t < 1000000) : zsm c f t (m + 1) (min x (c f m + c (m + 1) t)) := by
  obtain ⟨a1, a2, a3, a4⟩ := h
  refine ⟨fun k h1 h2 => ?_, fun h => by omega, fun _ => ?_, by omega⟩
  · by_cases hk : k = m
    · subst hk
      omega
    · have := a1 k h1 (by omega)
      omega
  · by_cases hx : x ≤ c f m + c (m + 1) t
    · by_cases hfm : f < m
      · obtain ⟨k, k1, k2, k3⟩ := a3 hfm
        exact ⟨k, k1, by omega, by omega⟩
      · have := a2 (by omega)
        omega
    · exact ⟨m, hm, by omega, by omega⟩
theorem zsm_e {c : Nat → Nat → Int} {f t : Nat} {x : Int} (h : zsm c f t t x) (hft : f < t) : (∀ m, f ≤ m → m < t → x ≤ c f m + c (m + 1) t) ∧ ∃ m, f ≤ m ∧ m < t ∧ x = c f m + c (m + 1) t := ⟨h.1, h.2.2.1 hft⟩
/-! the reference's sets, one by one -/
def zqS (f : Nat → Nat) : Nat → Nat
  | 0 => 0
  | n + 1 => zqS f n + f n
def zqOn (n s : Nat) : Nat := zqS (fun e => if s.testBit e = true then 1 else 0) n
set_option maxRecDepth 100000 in
theorem zpc_s : ∀ v, v < 256 → v ≠ 0 → zqOn 8 (v &&& (v - 1)) + 1 = zqOn 8 v := by decide +kernel
theorem zpc_0 : zqOn 8 0 = 0 := by decide
set_option maxRecDepth 100000 in
theorem zpc_1 : ∀ v, v < 256 → zqOn 8 v = 1 → ∃ e, e < 8 ∧ v = 2 ^ e := by decide +kernel
set_option maxRecDepth 100000 in
theorem zpc_2 : ∀ e, e < 8 → zqOn 8 (2 ^ e) = 1 := by decide +kernel
theorem zpc_3 : ∀ e, e < 8 → (2 ^ e - 1) &&& 2 ^ e = 0 := by decide
theorem zpc_b : ∀ v, v < 256 → zqOn 8 v ≤ 8 := by decide +kernel
theorem zpc_i {n s : Nat} (hn : n ≤ 8) (hs : s < 2 ^ n) : zqOn 8 s = 1 ↔ ∃ e, e < n ∧ s = 2 ^ e := by
  have h8 : s < 256 := Nat.lt_of_lt_of_le hs (Nat.pow_le_pow_right (by omega) hn)
  refine ⟨fun h => ?_, fun ⟨e, he, q⟩ => by rw [q]; exact zpc_2 e (by omega)⟩
  obtain ⟨e, e1, e2⟩ := zpc_1 s h8 h
  refine ⟨e, ?_, e2⟩
  by_cases hen : e < n
  · exact hen
  · have : (2 : Nat) ^ n ≤ 2 ^ e := Nat.pow_le_pow_right (by omega) (by omega)
    omega
/-- the sets in a set go down one by one -/
theorem zpred (o : Nat) : ∀ s a : Nat, o &&& s = o → a &&& s = a → a < o → a ≤ (o - 1) &&& s := by
  induction o using Nat.strongRecOn with
  | ind o ih =>
    intro s a ho ha hlt
    have d1 : o / 2 &&& s / 2 = o / 2 := by rw [← Nat.and_div_two, ho]
    have d2 : a / 2 &&& s / 2 = a / 2 := by rw [← Nat.and_div_two, ha]
    have e : ((o - 1) &&& s) / 2 = (o - 1) / 2 &&& s / 2 := Nat.and_div_two
    have m1 : ((o - 1) &&& s) % 2 = 1 ↔ (o - 1) % 2 = 1 ∧ s % 2 = 1 := Nat.and_mod_two_eq_one
    have m2 : (a &&& s) % 2 = 1 ↔ a % 2 = 1 ∧ s % 2 = 1 := Nat.and_mod_two_eq_one
    rw [ha] at m2
    by_cases hb : o % 2 = 1
    · rw [show (o - 1) / 2 = o / 2 by omega, d1] at e
      omega
    · have i1 := ih (o / 2) (by omega) (s / 2) (a / 2) d1 d2 (by omega)
      rw [show (o - 1) / 2 = o / 2 - 1 by omega] at e
      by_cases ha2 : a % 2 = 1
      · have := m1.mpr ⟨by omega, (m2.mp ha2).2⟩
        omega
      · omega
theorem zandn2 {k s : Nat} (hk : k ≤ 2147483647) (hs : s ≤ 2147483647) : pm_and (k : Int) (pm_xor (s : Int) (-1)) = ((k &&& (s ^^^ 4294967295) : Nat) : Int) := by
  have hm : (Int32.ofInt (-1)).toBitVec.toNat = 4294967295 := by decide
  have e : (Int32.ofInt (k : Int) &&& Int32.ofInt (pm_xor (s : Int) (-1))).toBitVec.toNat = k &&& (s ^^^ 4294967295) := by
    unfold pm_xor
    rw [Int32.ofInt_toInt, Int32.toBitVec_and, BitVec.toNat_and, Int32.toBitVec_xor, BitVec.toNat_xor, hm, zbv (by omega) (by omega), zbv (by omega) (by omega), Int.toNat_natCast, Int.toNat_natCast]
  have hle : k &&& (s ^^^ 4294967295) ≤ k := Nat.and_le_left
  unfold pm_and
  rw [sx_ofn (by rw [e]; omega), e]
/-- the others of a set -/
theorem zoth {s o : Nat} (hs : s < 256) (h : o &&& s = o) : o &&& (s &&& (o ^^^ 4294967295)) = 0 ∧ o ||| (s &&& (o ^^^ 4294967295)) = s := by
  have ho : ∀ i, o.testBit i = true → s.testBit i = true := fun i hi => by
    have := congrArg (fun x => x.testBit i) h
    simp only [Nat.testBit_and, hi, Bool.true_and] at this
    exact this
  have hx : ∀ i, (o ^^^ 4294967295).testBit i = Bool.xor (o.testBit i) (decide (i < 32)) := fun i => by
    rw [Nat.testBit_xor, show (4294967295 : Nat) = 2 ^ 32 - 1 by decide, Nat.testBit_two_pow_sub_one]
  have h8 : ∀ i, s.testBit i = true → i < 8 := fun i hi => by
    by_cases h : i < 8
    · exact h
    · rw [Nat.testBit_lt_two_pow (Nat.lt_of_lt_of_le hs (show 2 ^ 8 ≤ 2 ^ i from Nat.pow_le_pow_right (by omega) (by omega)))] at hi
      cases hi
  refine ⟨Nat.eq_of_testBit_eq (fun i => ?_), Nat.eq_of_testBit_eq (fun i => ?_)⟩
  · rw [Nat.testBit_and, Nat.testBit_and, hx, Nat.zero_testBit]
    cases hi : o.testBit i with
    | false => rfl
    | true =>
      have := h8 i (ho i hi)
      rw [decide_eq_true (show i < 32 by omega)]
      cases s.testBit i <;> rfl
  · rw [Nat.testBit_or, Nat.testBit_and, hx]
    cases hi : o.testBit i with
    | true => rw [ho i hi]; rfl
    | false =>
      cases hsi : s.testBit i with
      | false => rfl
      | true =>
        have := h8 i hsi
        rw [decide_eq_true (show i < 32 by omega)]
        rfl
/-- what is left of a set is told by the part -/
theorem zoth_un {s a b : Nat} (hs : s < 256) (h1 : a &&& b = 0) (h2 : a ||| b = s) : a &&& s = a ∧ b = s &&& (a ^^^ 4294967295) := by
  have ha : a &&& s = a := by
    rw [← h2]
    exact Nat.eq_of_testBit_eq (fun i => by rw [Nat.testBit_and, Nat.testBit_or]; cases a.testBit i <;> cases b.testBit i <;> rfl)
  refine ⟨ha, ?_⟩
  obtain ⟨q1, q2⟩ := zoth hs ha
  refine Nat.eq_of_testBit_eq (fun i => ?_)
  have e : (a ||| b).testBit i = (a ||| (s &&& (a ^^^ 4294967295))).testBit i := by rw [h2, q2]
  rw [Nat.testBit_or, Nat.testBit_or] at e
  have n1 := zh_bits h1 i
  have n2 := zh_bits q1 i
  cases hai : a.testBit i
  · rw [hai, Bool.false_or, Bool.false_or] at e
    exact e
  · have b1 : b.testBit i = false := by
      cases hb : b.testBit i
      · rfl
      · exact absurd ⟨hai, hb⟩ n1
    have b2 : (s &&& (a ^^^ 4294967295)).testBit i = false := by
      cases hb : (s &&& (a ^^^ 4294967295)).testBit i
      · rfl
      · exact absurd ⟨hai, hb⟩ n2
    rw [b1, b2]
theorem zjs_cg {w : Nat → Int} {n : Nat} {q : Int} {j j' : Nat → Int} {s : Nat} (h : ∀ i, i ≤ s → j' i = j i) (hz : zjs w n q j s) : zjs w n q j' s := by
  obtain ⟨a1, a2, a3⟩ := hz
  have hs := h s (Nat.le_refl _)
  refine ⟨by rw [hs]; exact a1, fun x => by rw [hs]; exact a2 x, fun x y => ?_⟩
  obtain ⟨b1, b2⟩ := a3 x y
  refine ⟨fun a b ha hb hab ho c1 c2 => ?_, ?_⟩
  · have l1 : a ≤ s := by rw [← ho]; exact Nat.left_le_or
    have l2 : b ≤ s := by rw [← ho]; exact Nat.right_le_or
    rw [hs, h a l1, h b l2]
    exact b1 a b ha hb hab ho c1 c2
  · rcases b2 with b2 | ⟨a, b, c1, c2, c3, c4, c5, c6, c7⟩
    · exact Or.inl (by rw [hs]; exact b2)
    · have l1 : a ≤ s := by rw [← c4]; exact Nat.left_le_or
      have l2 : b ≤ s := by rw [← c4]; exact Nat.right_le_or
      exact Or.inr ⟨a, b, c1, c2, c3, c4, c5, c6, by rw [hs, h a l1, h b l2]; exact c7⟩
/-- a set on the way: the parts above o are through -/
def zjo (w : Nat → Int) (n : Nat) (q : Int) (j : Nat → Int) (s o : Nat) : Prop := (0 ≤ j s ∧ j s ≤ 100000000) ∧ ((∃ e, e < n ∧ s = 2 ^ e) → j s = 0 ∧ o = 0) ∧ (¬ (∃ e, e < n ∧ s = 2 ^ e) → (∀ a b, a ≠ 0 → b ≠ 0 → a &&& b = 0 → a ||| b = s → o < a → zcn q a → zcn q b → j s ≤ j a + j b + zhw w n s) ∧ (j s = 100000000 ∨ ∃ a b, a ≠ 0 ∧ b ≠ 0 ∧ a &&& b = 0 ∧ a ||| b = s ∧ zcn q a ∧ zcn q b ∧ j s = j a + j b + zhw w n s))
theorem zjo_end {w : Nat → Int} {n : Nat} {q : Int} {j : Nat → Int} {s : Nat} (h : zjo w n q j s 0) : zjs w n q j s :=
  ⟨h.1, fun x => (h.2.1 x).1, fun x _ => ⟨fun a b ha hb hab ho c1 c2 => (h.2.2 x).1 a b ha hb hab ho (by omega) c1 c2, (h.2.2 x).2⟩⟩
theorem zjo_0 {w : Nat → Int} {n : Nat} {q : Int} {j : Nat → Int} {s o : Nat} (h1 : (∃ e, e < n ∧ s = 2 ^ e) → j s = 0 ∧ o = 0) (h2 : ¬ (∃ e, e < n ∧ s = 2 ^ e) → j s = 100000000) (ho : o = (s - 1) &&& s) : zjo w n q j s o := by
  refine ⟨?_, h1, fun x => ⟨fun a b ha hb hab hor hlt _ _ => ?_, Or.inl (h2 x)⟩⟩
  · by_cases x : ∃ e, e < n ∧ s = 2 ^ e
    · have := (h1 x).1; omega
    · have := h2 x; omega
  · exfalso
    have hsub : a &&& s = a := by
      rw [← hor]
      exact Nat.eq_of_testBit_eq (fun i => by rw [Nat.testBit_and, Nat.testBit_or]; cases a.testBit i <;> cases b.testBit i <;> rfl)
    have hne : a ≠ s := fun q => by
      obtain ⟨i, hi⟩ := zh_nz hb
      have e : (a ||| b).testBit i = true := by rw [Nat.testBit_or, hi, Bool.or_true]
      rw [hor, ← q] at e
      exact zh_bits hab i ⟨e, hi⟩
    have hle : a ≤ s := by rw [← hor]; exact Nat.left_le_or
    have := zpred s s a (Nat.and_self s) hsub (by omega)
    omega
/-- not beside: left as it is -/
theorem zjs_no {w : Nat → Int} {n : Nat} {q : Int} {j : Nat → Int} {s : Nat} (h1 : (∃ e, e < n ∧ s = 2 ^ e) → j s = 0) (h2 : ¬ (∃ e, e < n ∧ s = 2 ^ e) → j s = 100000000) (hc : ¬ zcn q s) : zjs w n q j s := by
  refine ⟨?_, h1, fun _ y => absurd y hc⟩
  by_cases x : ∃ e, e < n ∧ s = 2 ^ e
  · have := h1 x; omega
  · have := h2 x; omega
/-- one part further -/
theorem zjo_s {w : Nat → Int} {n : Nat} {q : Int} {j j' : Nat → Int} {s o o' b : Nat} (hs : s < 256) (hb0 : b = s &&& (o ^^^ 4294967295)) (hsub : o &&& s = o) (ho : o ≠ 0) (h : zjo w n q j s o) (ho' : o' = (o - 1) &&& s) (hk : ∀ i, i < s → j' i = j i) (hv : j' s = (if b ≠ 0 ∧ zcn q o ∧ zcn q b then min (j s) (j o + j b + zhw w n s) else j s)) (hnn : 0 ≤ j o + j b + zhw w n s) : zjo w n q j' s o' := by
  obtain ⟨a1, a2, a3⟩ := h
  obtain ⟨z1, z2⟩ := zoth hs hsub
  rw [← hb0] at z1 z2
  have hlt : ∀ x y, x ≠ 0 → y ≠ 0 → x &&& y = 0 → x ||| y = s → x < s ∧ y < s := fun x y hx hy hxy hor => by
    have l1 : x ≤ s := by rw [← hor]; exact Nat.left_le_or
    have l2 : y ≤ s := by rw [← hor]; exact Nat.right_le_or
    refine ⟨?_, ?_⟩
    · have : x ≠ s := fun q => by
        obtain ⟨i, hi⟩ := zh_nz hy
        have e : (x ||| y).testBit i = true := by rw [Nat.testBit_or, hi, Bool.or_true]
        rw [hor, ← q] at e
        exact zh_bits hxy i ⟨e, hi⟩
      omega
    · have : y ≠ s := fun q => by
        obtain ⟨i, hi⟩ := zh_nz hx
        have e : (x ||| y).testBit i = true := by rw [Nat.testBit_or, hi]; rfl
        rw [hor, ← q] at e
        exact zh_bits hxy i ⟨hi, e⟩
      omega
  refine ⟨?_, fun x => absurd (a2 x).2 ho, fun x => ?_⟩
  · rw [hv]
    split <;> omega
  · obtain ⟨b1, b2⟩ := a3 x
    refine ⟨fun a c ha hc hac hor hlt' c1 c2 => ?_, ?_⟩
    · obtain ⟨l1, l2⟩ := hlt a c ha hc hac hor
      rw [hk a l1, hk c l2]
      obtain ⟨u1, u2⟩ := zoth_un hs hac hor
      by_cases hao : a = o
      · subst hao
        have ecb : c = b := by rw [hb0]; exact u2
        subst ecb
        rw [hv, if_pos ⟨hc, c1, c2⟩]
        omega
      · have hgt : o < a := by
          by_cases hgt : o < a
          · exact hgt
          · have := zpred o s a hsub u1 (by omega)
            omega
        have := b1 a c ha hc hac hor hgt c1 c2
        rw [hv]
        split <;> omega
    · rw [hv]
      split
      · rename_i hcond
        by_cases hle : j s ≤ j o + j b + zhw w n s
        · rcases b2 with b2 | ⟨a, c, c1, c2, c3, c4, c5, c6, c7⟩
          · exact Or.inl (by omega)
          · obtain ⟨l1, l2⟩ := hlt a c c1 c2 c3 c4
            exact Or.inr ⟨a, c, c1, c2, c3, c4, c5, c6, by rw [hk a l1, hk c l2]; omega⟩
        · obtain ⟨l1, l2⟩ := hlt o b ho hcond.1 z1 z2
          exact Or.inr ⟨o, b, ho, hcond.1, z1, z2, hcond.2.1, hcond.2.2, by rw [hk o l1, hk b l2]; omega⟩
      · rcases b2 with b2 | ⟨a, c, c1, c2, c3, c4, c5, c6, c7⟩
        · exact Or.inl b2
        · obtain ⟨l1, l2⟩ := hlt a c c1 c2 c3 c4
          exact Or.inr ⟨a, c, c1, c2, c3, c4, c5, c6, by rw [hk a l1, hk c l2]; exact c7⟩
