/-! who must buy what: assignments, the least of them -/
def zcl (k s : Nat) : Nat := k &&& (255 ^^^ 2 ^ s)
theorem zcl_comm (k s t : Nat) : zcl (zcl k s) t = zcl (zcl k t) s := by
  unfold zcl
  rw [Nat.and_assoc, Nat.and_comm (255 ^^^ 2 ^ s), ← Nat.and_assoc]
theorem zcl_m : ∀ s, s < 8 → ∀ i, i < 8 → (255 ^^^ 2 ^ s).testBit i = decide (i ≠ s) := by decide
theorem zcl_bit {k s i : Nat} (hs : s < 8) (hi : i < 8) : (zcl k s).testBit i = (k.testBit i && decide (i ≠ s)) := by
  unfold zcl
  rw [Nat.testBit_and, zcl_m s hs i hi]
theorem zcl_le (k s : Nat) : zcl k s ≤ k := Nat.and_le_left
theorem zcl_sub {k s t : Nat} (h : k &&& t = k) : zcl k s &&& t = zcl k s := by
  unfold zcl
  rw [Nat.and_assoc, Nat.and_comm (255 ^^^ 2 ^ s), ← Nat.and_assoc, h]
theorem zcl_lt {k s : Nat} (hs : s < 8) (h : k.testBit s = true) : zcl k s < k := by
  have h1 := zcl_le k s
  rcases Nat.lt_or_eq_of_le h1 with h2 | h2
  · exact h2
  · have := zcl_bit (k := k) hs hs
    rw [h2, h] at this
    simp at this
/-- the set k by customers below n who are not of T, at v -/
def zA (cost : Nat → Nat → Int) (T : Nat → Bool) : Nat → Nat → Int → Prop
  | 0, k, v => k = 0 ∧ v = 0
  | n + 1, k, v => zA cost T n k v ∨ (T n = false ∧ ∃ s, s < 8 ∧ k.testBit s = true ∧ zA cost T n (zcl k s) (v - cost n s))
section ZAS
variable {cost : Nat → Nat → Int} {T T' : Nat → Bool}
theorem zA_agree : ∀ {n k : Nat} {v : Int}, (∀ i, i < n → T i = T' i) → zA cost T n k v → zA cost T' n k v
  | 0, k, v, _, h => h
  | n + 1, k, v, hT, h => by
    rcases h with h | ⟨h1, s, h2, h3, h4⟩
    · exact Or.inl (zA_agree (fun i hi => hT i (by omega)) h)
    · exact Or.inr ⟨by rw [← hT n (by omega)]; exact h1, s, h2, h3, zA_agree (fun i hi => hT i (by omega)) h4⟩
theorem zA_nn : ∀ {n k : Nat} {v : Int}, (∀ c, c < n → ∀ s, s < 8 → 0 ≤ cost c s) → zA cost T n k v → 0 ≤ v
  | 0, k, v, _, h => by have := h.2; omega
  | n + 1, k, v, hc, h => by
    rcases h with h | ⟨h1, s, h2, h3, h4⟩
    · exact zA_nn (fun c hc1 => hc c (by omega)) h
    · have := zA_nn (fun c hc1 => hc c (by omega)) h4
      have := hc n (by omega) s h2
      omega
def zup (T : Nat → Bool) (c : Nat) : Nat → Bool := fun i => T i || decide (i = c)
/-- one who has a thing of the set is taken out -/
theorem zA_out {s : Nat} (hs : s < 8) : ∀ {n k : Nat} {v : Int}, zA cost T n k v → k.testBit s = true → ∃ c, c < n ∧ T c = false ∧ zA cost (zup T c) n (zcl k s) (v - cost c s)
  | 0, k, v, h, hk => by
    rw [h.1] at hk
    simp at hk
  | n + 1, k, v, h, hk => by
    rcases h with h | ⟨h1, t, h2, h3, h4⟩
    · obtain ⟨c, c1, c2, c3⟩ := zA_out hs h hk
      exact ⟨c, by omega, c2, Or.inl c3⟩
    · by_cases ht : t = s
      · subst ht
        exact ⟨n, by omega, h1, Or.inl (zA_agree (fun i hi => by unfold zup; simp; omega) h4)⟩
      · have hk2 : (zcl k t).testBit s = true := by rw [zcl_bit h2 hs, hk]; simp; omega
        obtain ⟨c, c1, c2, c3⟩ := zA_out hs h4 hk2
        refine ⟨c, by omega, c2, Or.inr ⟨by unfold zup; rw [h1]; simp; omega, t, h2, by rw [zcl_bit hs h2, h3]; simp; omega, ?_⟩⟩
        rw [zcl_comm, show v - cost c s - cost n t = v - cost n t - cost c s by omega]
        exact c3
/-- and put in -/
theorem zA_into {s c : Nat} (hs : s < 8) (hT : T c = false) : ∀ {n k : Nat} {w : Int}, c < n → k.testBit s = true → zA cost (zup T c) n (zcl k s) w → zA cost T n k (w + cost c s)
  | 0, k, w, hc, _, _ => by omega
  | n + 1, k, w, hc, hk, h => by
    by_cases hcn : c = n
    · subst hcn
      rcases h with h | ⟨h1, -⟩
      · refine Or.inr ⟨hT, s, hs, hk, ?_⟩
        rw [show w + cost c s - cost c s = w by omega]
        exact zA_agree (fun i hi => by unfold zup; simp; omega) h
      · unfold zup at h1
        simp at h1
    · rcases h with h | ⟨h1, t, h2, h3, h4⟩
      · exact Or.inl (zA_into hs hT (by omega) hk h)
      · rw [zcl_bit hs h2] at h3
        simp at h3
        rw [zcl_comm] at h4
        have hTn : T n = false := by
          unfold zup at h1
          simp at h1
          exact h1.1
        have := zA_into hs hT (n := n) (k := zcl k t) (by omega) (by rw [zcl_bit h2 hs, hk]; simp; omega) h4
        refine Or.inr ⟨hTn, t, h2, h3.1, ?_⟩
        rw [show w + cost c s - cost n t = w - cost n t + cost c s by omega]
        exact this
/-- the least -/
def zGv (cost : Nat → Nat → Int) (T : Nat → Bool) (m j : Nat) (x : Int) : Prop := (∀ v, zA cost T m j v → x ≤ v) ∧ (x < 100000000 → zA cost T m j x)
/-- the least, so far by the things below s -/
def zGp (cost : Nat → Nat → Int) (T : Nat → Bool) (n s k : Nat) (x : Int) : Prop := (∀ v, zA cost T n k v → x ≤ v) ∧ (∀ t, t < s → k.testBit t = true → ∀ v, zA cost T n (zcl k t) (v - cost n t) → x ≤ v) ∧ (x < 100000000 → zA cost T n k x ∨ ∃ t, t < s ∧ k.testBit t = true ∧ zA cost T n (zcl k t) (x - cost n t))
theorem zGp_0 {n k : Nat} {x : Int} (h : zGv cost T n k x) : zGp cost T n 0 k x := ⟨h.1, fun t ht => by omega, fun hx => Or.inl (h.2 hx)⟩
theorem zGp_skip {n s k : Nat} {x : Int} (h : zGp cost T n s k x) (hb : k.testBit s = false) : zGp cost T n (s + 1) k x := by
  refine ⟨h.1, fun t ht hk v hv => ?_, fun hx => ?_⟩
  · by_cases hts : t = s
    · subst hts; rw [hb] at hk; cases hk
    · exact h.2.1 t (by omega) hk v hv
  · rcases h.2.2 hx with q | ⟨t, t1, t2, t3⟩
    · exact Or.inl q
    · exact Or.inr ⟨t, by omega, t2, t3⟩
theorem zGp_step {n s k : Nat} {x y : Int} (h : zGp cost T n s k x) (hb : k.testBit s = true) (hy : zGv cost T n (zcl k s) y) (hc : 0 ≤ cost n s) : zGp cost T n (s + 1) k (min x (y + cost n s)) := by
  refine ⟨fun v hv => ?_, fun t ht hk v hv => ?_, fun hx => ?_⟩
  · have := h.1 v hv; omega
  · by_cases hts : t = s
    · subst hts
      have := hy.1 _ hv
      omega
    · have := h.2.1 t (by omega) hk v hv; omega
  · by_cases hxy : x ≤ y + cost n s
    · rw [show min x (y + cost n s) = x by omega] at hx ⊢
      rcases h.2.2 hx with q | ⟨t, t1, t2, t3⟩
      · exact Or.inl q
      · exact Or.inr ⟨t, by omega, t2, t3⟩
    · rw [show min x (y + cost n s) = y + cost n s by omega] at hx ⊢
      refine Or.inr ⟨s, by omega, hb, ?_⟩
      rw [show y + cost n s - cost n s = y by omega]
      exact hy.2 (by omega)
theorem zGp_8 {n k : Nat} {x : Int} (h : zGp cost T n 8 k x) (hT : T n = false) : zGv cost T (n + 1) k x := by
  refine ⟨fun v hv => ?_, fun hx => ?_⟩
  · rcases hv with hv | ⟨-, t, t1, t2, t3⟩
    · exact h.1 v hv
    · exact h.2.1 t t1 t2 v t3
  · rcases h.2.2 hx with q | ⟨t, t1, t2, t3⟩
    · exact Or.inl q
    · exact Or.inr ⟨hT, t, t1, t2, t3⟩
theorem zGv_T {n k : Nat} {x : Int} (h : zGv cost T n k x) (hT : T n = true) : zGv cost T (n + 1) k x := by
  refine ⟨fun v hv => ?_, fun hx => Or.inl (h.2 hx)⟩
  rcases hv with hv | ⟨h1, -⟩
  · exact h.1 v hv
  · rw [hT] at h1; cases h1
theorem zGv_0 {n : Nat} {x : Int} (h : zGv cost T n 0 x) : zGv cost T (n + 1) 0 x := by
  refine ⟨fun v hv => ?_, fun hx => Or.inl (h.2 hx)⟩
  rcases hv with hv | ⟨-, t, -, t2, -⟩
  · exact h.1 v hv
  · simp at t2
/-- there is one by whom the rest is least -/
theorem zGv_who {n k s : Nat} {x : Int} (hs : s < 8) (h : zGv cost T n k x) (hx : x < 100000000) (hk : k.testBit s = true) (hc : ∀ c, c < n → ∀ s, s < 8 → 0 ≤ cost c s) : ∃ c, c < n ∧ T c = false ∧ cost c s ≤ x ∧ ∀ y, zGv cost (zup T c) n (zcl k s) y → y + cost c s = x := by
  obtain ⟨c, c1, c2, c3⟩ := zA_out hs (h.2 hx) hk
  have hnn := zA_nn hc c3
  refine ⟨c, c1, c2, by omega, fun y hy => ?_⟩
  have h1 := hy.1 _ c3
  have hcc := hc c c1 s hs
  have h2 := h.1 _ (zA_into hs c2 c1 hk (hy.2 (by omega)))
  omega
end ZAS
theorem zandn {k s : Nat} (hk : k ≤ 2147483647) (hs : s ≤ 2147483647) : pm_and (k : Int) (pm_xor (s : Int) (-1)) = ((k &&& (s ^^^ 4294967295) : Nat) : Int) := by
  have hm : (Int32.ofInt (-1)).toBitVec.toNat = 4294967295 := by decide
  have e : (Int32.ofInt (k : Int) &&& Int32.ofInt (pm_xor (s : Int) (-1))).toBitVec.toNat = k &&& (s ^^^ 4294967295) := by
    unfold pm_xor
    rw [Int32.ofInt_toInt, Int32.toBitVec_and, BitVec.toNat_and, Int32.toBitVec_xor, BitVec.toNat_xor, hm, zbv (by omega) (by omega), zbv (by omega) (by omega), Int.toNat_natCast, Int.toNat_natCast]
  have hle : k &&& (s ^^^ 4294967295) ≤ k := Nat.and_le_left
  unfold pm_and
  rw [sx_ofn (by rw [e]; omega), e]
theorem znot_bit {s i : Nat} : (s ^^^ 4294967295).testBit i = Bool.xor (s.testBit i) (decide (i < 32)) := by
  rw [Nat.testBit_xor, show (4294967295 : Nat) = 2 ^ 32 - 1 by decide, Nat.testBit_two_pow_sub_one]
theorem zlt8 {k i : Nat} (hk : k < 256) (h : k.testBit i = true) : i < 8 := by
  by_cases hi : i < 8
  · exact hi
  · rw [Nat.testBit_lt_two_pow (Nat.lt_of_lt_of_le hk (show 2 ^ 8 ≤ 2 ^ i from Nat.pow_le_pow_right (by omega) (by omega)))] at h
    cases h
theorem zshl1 : ∀ c : Nat, c < 31 → pm_shl 1 (c : Int) = ((2 ^ c : Nat) : Int) := by decide +kernel
theorem zhas8 (k : Nat) (hk : k < 256) (s : Nat) (hs : s < 8) : pm_and (k : Int) (pm_xor (pm_shl 1 (s : Int)) (-1)) = ((zcl k s : Nat) : Int) := by
  have hp : (2 : Nat) ^ s ≤ 2 ^ 8 := Nat.pow_le_pow_right (by omega) (by omega)
  have hp : (2 : Nat) ^ s ≤ 256 := hp
  rw [zshl1 s (by omega), zandn (by omega) (by omega)]
  congr 1
  unfold zcl
  refine Nat.eq_of_testBit_eq (fun i => ?_)
  rw [Nat.testBit_and, Nat.testBit_and, znot_bit, Nat.testBit_xor, show (255 : Nat) = 2 ^ 8 - 1 by decide, Nat.testBit_two_pow_sub_one]
  cases h : k.testBit i with
  | false => rfl
  | true =>
    have := zlt8 hk h
    rw [decide_eq_true (show i < 32 by omega), decide_eq_true this]
    cases (2 ^ s).testBit i <;> rfl
theorem zsub8 (k : Nat) (hk : k < 256) (s : Nat) (hs : s < 256) : pm_and (k : Int) (pm_xor (s : Int) (-1)) = 0 ↔ k &&& s = k := by
  rw [zandn (by omega) (by omega)]
  refine ⟨fun h => ?_, fun h => ?_⟩
  · have h0 : k &&& (s ^^^ 4294967295) = 0 := by omega
    refine Nat.eq_of_testBit_eq (fun i => ?_)
    have hb : (k &&& (s ^^^ 4294967295)).testBit i = false := by rw [h0, Nat.zero_testBit]
    rw [Nat.testBit_and, znot_bit] at hb
    rw [Nat.testBit_and]
    cases hki : k.testBit i with
    | false => rfl
    | true =>
      have := zlt8 hk hki
      rw [hki, decide_eq_true (show i < 32 by omega)] at hb
      cases hsi : s.testBit i with
      | false => rw [hsi] at hb; cases hb
      | true => rfl
  · have h0 : k &&& (s ^^^ 4294967295) = 0 := Nat.eq_of_testBit_eq (fun i => by
      have hb : (k &&& s).testBit i = k.testBit i := by rw [h]
      rw [Nat.testBit_and] at hb
      rw [Nat.testBit_and, znot_bit, Nat.zero_testBit]
      cases hki : k.testBit i with
      | false => rfl
      | true =>
        have := zlt8 hk hki
        rw [hki] at hb
        rw [decide_eq_true (show i < 32 by omega)]
        cases hsi : s.testBit i with
        | false => rw [hsi] at hb; cases hb
        | true => rfl)
    rw [h0]
    rfl
def zcost (μ : pm_Mem) : Nat → Nat → Int := fun c s => μ 226 (8 * (c : Int) + (s : Int))
def ztk (t : Int) : Nat → Bool := fun i => t.toNat.testBit i
