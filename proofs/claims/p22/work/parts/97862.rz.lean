/-! RING: who stands where; one shift of the row -/
def zsh (f : Int → Int) (a w : Int) : Int → Int := fun p => if a ≤ p ∧ p + 1 < w then f (p + 1) else f p
def zrg (k : Int) : Nat → (Int → Int) → Int → Int → Int
  | 0, f, a, w => f ((a + k - 1) % w)
  | t + 1, f, a, w => zrg k t (zsh f ((a + k - 1) % w) w) ((a + k - 1) % w) (w - 1)
def zrq (u k v : Int) : Int := zrg k v.toNat (fun p => p) 0 u
def zrz (u k v : Int) : Int := if (1 ≤ u ∧ u ≤ 100) ∧ (1 ≤ k ∧ k ≤ 100) ∧ (0 ≤ v ∧ v ≤ u - 1) then zrq u k v else -1
theorem zrg_0 (k : Int) (f : Int → Int) (a w : Int) : zrg k 0 f a w = f ((a + k - 1) % w) := rfl
theorem zrg_s (k : Int) (t : Nat) (f : Int → Int) (a w : Int) : zrg k (t + 1) f a w = zrg k t (zsh f ((a + k - 1) % w) w) ((a + k - 1) % w) (w - 1) := rfl
theorem zrg_congr (k : Int) : ∀ (t : Nat) {f g : Int → Int} {a w : Int}, (t : Int) < w → (∀ p, 0 ≤ p → p < w → f p = g p) → zrg k t f a w = zrg k t g a w
  | 0, f, g, a, w, hw, h => h _ (Int.emod_nonneg _ (by omega)) (Int.emod_lt_of_pos _ (by omega))
  | t + 1, f, g, a, w, hw, h => by
    rw [zrg_s, zrg_s]
    refine zrg_congr k t (by omega) (fun p p0 p1 => ?_)
    have b0 := Int.emod_nonneg (a + k - 1) (show w ≠ 0 by omega)
    unfold zsh
    by_cases hc : (a + k - 1) % w ≤ p ∧ p + 1 < w
    · rw [if_pos hc, if_pos hc]
      exact h _ (by omega) hc.2
    · rw [if_neg hc, if_neg hc]
      exact h _ p0 (by omega)
theorem zrz_in {u k v : Int} (h1 : 1 ≤ u ∧ u ≤ 100) (h2 : 1 ≤ k ∧ k ≤ 100) (h3 : 0 ≤ v ∧ v ≤ u - 1) : zrz u k v = zrq u k v := if_pos ⟨h1, h2, h3⟩
theorem zrz_u {u k v : Int} (h : ¬ (1 ≤ u ∧ u ≤ 100)) : zrz u k v = -1 := if_neg (fun q => h q.1)
theorem zrz_k {u k v : Int} (h : ¬ (1 ≤ k ∧ k ≤ 100)) : zrz u k v = -1 := if_neg (fun q => h q.2.1)
theorem zrz_v {u k v : Int} (h : ¬ (0 ≤ v ∧ v ≤ u - 1)) : zrz u k v = -1 := if_neg (fun q => h q.2.2)
/-- the row told from 0 up to j -/
def zwN (μ : pm_Mem) (r : Nat) (j : Int) : Prop := ∀ p : Int, 0 ≤ p → p < j → μ r p = p
theorem zwN_0 {μ : pm_Mem} {r : Nat} : zwN μ r 0 := fun p h0 h1 => by omega
theorem zwN_s {μ : pm_Mem} {r : Nat} {j : Int} (h : zwN μ r j) : zwN (pm_up μ r j j) r (j + 1) := fun p h0 h1 => by
  by_cases hp : p = j
  · subst hp; exact pm_up_eq _ _ _ _
  · rw [pm_up_ne hp]; exact h p h0 (by omega)
theorem zwN_le {μ : pm_Mem} {r : Nat} {j j' : Int} (h : zwN μ r j) (e : j' ≤ j) : zwN μ r j' := fun p h0 h1 => h p h0 (by omega)
theorem zwN_rg {μ : pm_Mem} {r : Nat} {u k v : Int} (h : zwN μ r u) (hv : 0 ≤ v ∧ v ≤ u - 1) : zrg k (v - (u - u)).toNat (μ r) 0 u = zrq u k v := by
  unfold zrq
  rw [show v - (u - u) = v by omega]
  exact zrg_congr k _ (by omega) h
theorem zwN_rg2 {μ : pm_Mem} {r : Nat} {u k v : Int} (h : zwN μ r u) (hv : 0 ≤ v ∧ v ≤ u - 1) : zrg k (v - 0).toNat (μ r) 0 (u - 0) = zrq u k v := by
  unfold zrq
  rw [show v - 0 = v by omega, show u - 0 = u by omega]
  exact zrg_congr k _ (by omega) h
theorem zsh_cp {μ : pm_Mem} {a w : Int} : pm_cp μ 203 (a + 1) a ((w - 1) - a) 203 = zsh (μ 203) a w := funext fun p => by
  unfold pm_cp zsh
  by_cases h : a ≤ p ∧ p + 1 < w
  · rw [if_pos ⟨rfl, h.1, by omega⟩, if_pos h, show p - a + (a + 1) = p + 1 by omega]
  · rw [if_neg (fun q => h ⟨q.2.1, by omega⟩), if_neg h]
theorem zrg_step {μ : pm_Mem} {k a w b T : Int} {t : Nat} (hb : b = (a + k - 1) % w) (hz : zrg k (t + 1) (μ 203) a w = T) : zrg k t (pm_cp μ 203 (b + 1) b ((w - 1) - b) 203) b (w + -1) = T := by
  rw [zsh_cp, hb, show w + -1 = w - 1 by omega]
  exact hz
/-- the reference's row while it is shifted -/
def zwQ (μ : pm_Mem) (f : Int → Int) (a p w : Int) : Prop := ∀ x : Int, 0 ≤ x → x < w → μ 233 x = if a ≤ x ∧ x < p then f (x + 1) else f x
theorem zwQ_0 {μ : pm_Mem} {a w : Int} : zwQ μ (μ 233) a a w := fun x h0 h1 => by rw [if_neg (by omega)]
theorem zwQ_eq {μ : pm_Mem} {f : Int → Int} {a p p' w : Int} (h : zwQ μ f a p w) (e : p' = p) : zwQ μ f a p' w := e ▸ h
theorem zwQ_up {μ : pm_Mem} {f : Int → Int} {a p w : Int} (h : zwQ μ f a p w) (ha : 0 ≤ a ∧ a ≤ p) (hp : p + 1 < w) : zwQ (pm_up μ 233 p (μ 233 (p + 1))) f a (p + 1) w := fun x h0 h1 => by
  by_cases hx : x = p
  · subst hx
    rw [pm_up_eq, if_pos ⟨ha.2, by omega⟩, h (x + 1) (by omega) hp, if_neg (by omega)]
  · rw [pm_up_ne hx, h x h0 h1]
    by_cases hc : a ≤ x ∧ x < p
    · rw [if_pos hc, if_pos ⟨hc.1, by omega⟩]
    · rw [if_neg hc, if_neg (fun q => hc ⟨q.1, by omega⟩)]
theorem zwQ_end {μ : pm_Mem} {f : Int → Int} {k a p w a0 T : Int} {t : Nat} (h : zwQ μ f a p w) (hp : p = w - 1) (ht : (t : Int) + 1 < w) (ha : a = (a0 + k - 1) % w) (hz : zrg k (t + 1) f a0 w = T) : zrg k t (μ 233) a (w - 1) = T := by
  rw [← hz, zrg_s, ← ha]
  refine zrg_congr k t (by omega) (fun x x0 x1 => ?_)
  rw [h x x0 (by omega)]
  unfold zsh
  by_cases hc : a ≤ x ∧ x < p
  · rw [if_pos hc, if_pos ⟨hc.1, by omega⟩]
  · rw [if_neg hc, if_neg (fun q => hc ⟨q.1, by omega⟩)]
theorem pm_cp_row {μ : pm_Mem} {r r' : Nat} {sp dp n : Int} (h : r' ≠ r) : pm_cp μ r sp dp n r' = μ r' := funext fun j => if_neg (fun q => h q.1)
theorem zT_cp {μ : pm_Mem} (hT : zTJ μ) {r n : Nat} {lo hi : Int} (h : zck r 0 n lo hi = true) (hg : zgd r = false) {sp dp c : Int} (h0 : 0 ≤ sp) (h1 : 0 ≤ dp) (h2 : sp + c ≤ n) (h3 : dp + c ≤ n) : zTJ (pm_cp μ r sp dp c) := by
  refine ⟨fun r' g k t q1 q2 q3 q4 q5 => ?_, ?_⟩
  · unfold pm_cp
    split
    · rename_i hc
      obtain ⟨rfl, hc1, hc2⟩ := hc
      obtain ⟨g', e1, e2, e3⟩ := zck_ok h
      obtain ⟨k1, k2⟩ := e3 k (by omega) (by omega)
      have eg : g' = g := by first | exact Option.some.inj (e1.symm.trans q2) | exact Option.some.inj (e2.symm.trans q2)
      rw [eg, q4] at k2
      cases k2
      exact zT_get hT h (i := (k : Int) - dp + sp) (by omega) (by omega)
    · exact hT.1 r' g k t q1 q2 q3 q4 q5
  · have key : ∀ x ∈ [213, 215, 216, 217, 218, 219, 222, 245], x ≠ r := fun y hy he => by
      unfold zgd at hg
      have := List.any_eq_false.mp hg y hy
      rw [he] at this
      exact this (Nat.beq_refl r)
    unfold zTJ at hT
    have hJ := hT.2
    unfold zJ at hJ ⊢
    rw [pm_cp_row (key 213 (by decide)), pm_cp_row (key 215 (by decide)), pm_cp_row (key 216 (by decide)), pm_cp_row (key 217 (by decide)), pm_cp_row (key 218 (by decide)), pm_cp_row (key 219 (by decide)), pm_cp_row (key 222 (by decide)), pm_cp_row (key 245 (by decide))]
    exact hJ
