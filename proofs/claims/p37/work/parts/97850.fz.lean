/-! shutters: what both sides reckon -/
def zab (d : Int) : Int := if d < 0 then -d else d
theorem zab_bd {d : Int} (h : -8 ≤ d ∧ d ≤ 8) : 0 ≤ zab d ∧ zab d ≤ 8 := by
  unfold zab
  split <;> omega
theorem zab_0 {i : Int} : zab (i - i) = 0 := by
  unfold zab
  rw [if_neg (by omega)]
  omega
theorem zab_ap {o k : Int} : (if k < o then o - k else k - o) = zab (k - o) := by
  unfold zab
  split <;> split <;> omega
def zfM (f : Int → Int) (i : Int) : Nat → Int → Int → Int
  | 0, _, h => h
  | k + 1, j, h => zfM f i k (j + 1) (max h (f j - 5 * zab (i - j)))
def zfS (f : Int → Int) (n : Int) : Nat → Int → Int → Int
  | 0, _, s => s
  | k + 1, i, s => zfS f n k (i + 1) (s + (zfM f i n.toNat 0 0 - f i))
def zfZ (n : Int) (f : Int → Int) : Int := zfS f n n.toNat 0 0
theorem zfM_end {f : Int → Int} {i j n h : Int} (hj : n ≤ j) : zfM f i (n - j).toNat j h = h := by
  rw [show (n - j).toNat = 0 by omega]
  rfl
theorem zfM_s {f : Int → Int} {i j n h T : Int} (hj : j < n) (hz : zfM f i (n - j).toNat j h = T) : zfM f i (n - (j + 1)).toNat (j + 1) (max h (f j - 5 * zab (i - j))) = T := by
  rw [show (n - j).toNat = (n - (j + 1)).toNat + 1 by omega] at hz
  exact hz
theorem zfS_end {f : Int → Int} {i n s : Int} (hi : n ≤ i) : zfS f n (n - i).toNat i s = s := by
  rw [show (n - i).toNat = 0 by omega]
  rfl
theorem zfS_s {f : Int → Int} {i n s h T : Int} (hi : i < n) (hz : zfS f n (n - i).toNat i s = T) (hh : zfM f i n.toNat 0 0 = h) : zfS f n (n - (i + 1)).toNat (i + 1) (s + (h - f i)) = T := by
  rw [show (n - i).toNat = (n - (i + 1)).toNat + 1 by omega] at hz
  rw [← hh]
  exact hz
theorem zfM_max {f : Int → Int} {i c : Int} : ∀ {k : Nat} {j h : Int}, zfM f i k j (max h c) = max (zfM f i k j h) c
  | 0, _, _ => rfl
  | k + 1, j, h => by
    show zfM f i k (j + 1) (max (max h c) (f j - 5 * zab (i - j))) = max (zfM f i k (j + 1) (max h (f j - 5 * zab (i - j)))) c
    rw [show max (max h c) (f j - 5 * zab (i - j)) = max (max h (f j - 5 * zab (i - j))) c by omega]
    exact zfM_max
theorem zfM_ge {f : Int → Int} {i : Int} : ∀ {k : Nat} {j h : Int}, h ≤ zfM f i k j h
  | 0, _, _ => Int.le_refl _
  | k + 1, j, h => Int.le_trans (by omega) (zfM_ge (f := f) (i := i) (k := k) (j := j + 1) (h := max h (f j - 5 * zab (i - j))))
theorem zfM_i {f : Int → Int} {i : Int} : ∀ {k : Nat} {j h : Int}, j ≤ i → i < j + k → f i ≤ zfM f i k j h
  | 0, _, _, _, _ => by omega
  | k + 1, j, h, h0, h1 => by
    show f i ≤ zfM f i k (j + 1) (max h (f j - 5 * zab (i - j)))
    by_cases hj : j = i
    · subst hj
      rw [zab_0]
      exact Int.le_trans (by omega) zfM_ge
    · exact zfM_i (by omega) (by omega)
theorem zfM_own {f : Int → Int} {i n : Int} (h0 : 0 ≤ i) (h1 : i < n) (hf : 0 ≤ f i) : zfM f i n.toNat 0 (f i) = zfM f i n.toNat 0 0 := by
  have h2 := zfM_max (f := f) (i := i) (c := f i) (k := n.toNat) (j := 0) (h := 0)
  have h3 := zfM_i (f := f) (i := i) (k := n.toNat) (j := 0) (h := 0) h0 (by omega)
  rw [show max 0 (f i) = f i by omega] at h2
  omega
theorem zfM_bd {f : Int → Int} {n : Int} (hf : ∀ i : Int, 0 ≤ i → i < n → 0 ≤ f i ∧ f i ≤ 99) {i : Int} : ∀ {k : Nat} {j h : Int}, 0 ≤ j → j + k ≤ n → 0 ≤ h ∧ h ≤ 99 → (0 ≤ i ∧ i ≤ 8) → n ≤ 8 → 0 ≤ zfM f i k j h ∧ zfM f i k j h ≤ 99
  | 0, _, _, _, _, h, _, _ => h
  | k + 1, j, h, h0, h1, h2, h3, h4 => by
    have e := hf j h0 (by omega)
    have z := zab_bd (d := i - j) ⟨by omega, by omega⟩
    exact zfM_bd (k := k) (j := j + 1) (h := max h (f j - 5 * zab (i - j))) hf (by omega) (by omega) ⟨by omega, by omega⟩ h3 h4
theorem zfM_congr {f g : Int → Int} {n : Int} (h : ∀ i : Int, 0 ≤ i → i < n → f i = g i) {i : Int} : ∀ {k : Nat} {j a : Int}, 0 ≤ j → j + k ≤ n → zfM f i k j a = zfM g i k j a
  | 0, _, _, _, _ => rfl
  | k + 1, j, a, h0, h1 => by
    unfold zfM
    rw [h j h0 (by omega)]
    exact zfM_congr h (by omega) (by omega)
theorem zfS_congr {f g : Int → Int} {n : Int} (h : ∀ i : Int, 0 ≤ i → i < n → f i = g i) : ∀ {k : Nat} {i s : Int}, 0 ≤ i → i + k ≤ n → zfS f n k i s = zfS g n k i s
  | 0, _, _, _, _ => rfl
  | k + 1, i, s, h0, h1 => by
    unfold zfS
    rw [zfM_congr h (Int.le_refl 0) (by omega), h i h0 (by omega)]
    exact zfS_congr h (by omega) (by omega)
theorem zfZ_congr {f g : Int → Int} {n : Int} (h : ∀ i : Int, 0 ≤ i → i < n → f i = g i) (hn : 0 ≤ n) : zfZ n f = zfZ n g := zfS_congr h (Int.le_refl 0) (by omega)
