/-! YEAR: how many letters, out of the table -/
def zxL (d : Int) : Int := ([0, 1, 2, 3, 2, 1, 2, 3, 4, 2] : List Int).getD d.toNat 0
def zxk : Nat → Int → Int
  | 0, _ => 0
  | n + 1, r => zxL (r % 10) + zxk n (r / 10)
theorem zxk_s (n : Nat) (r : Int) : zxk (n + 1) r = zxL (r % 10) + zxk n (r / 10) := rfl
theorem zxk_0 (r : Int) : zxk 0 r = 0 := rfl
theorem zxL_at {μ : pm_Mem} (hT : zTJ μ) {d : Int} (h0 : 0 ≤ d) (h1 : d ≤ 9) : μ 246 d = zxL d := by
  have hh : d = 0 ∨ d = 1 ∨ d = 2 ∨ d = 3 ∨ d = 4 ∨ d = 5 ∨ d = 6 ∨ d = 7 ∨ d = 8 ∨ d = 9 := by omega
  rcases hh with rfl | rfl | rfl | rfl | rfl | rfl | rfl | rfl | rfl | rfl
  · have q := zT_get hT (show zck 246 0 1 0 0 = true by decide +kernel) (i := 0) (by omega) (by omega)
    exact Int.le_antisymm q.2 q.1
  · have q := zT_get hT (show zck 246 1 1 1 1 = true by decide +kernel) (i := 1) (by omega) (by omega)
    exact Int.le_antisymm q.2 q.1
  · have q := zT_get hT (show zck 246 2 1 2 2 = true by decide +kernel) (i := 2) (by omega) (by omega)
    exact Int.le_antisymm q.2 q.1
  · have q := zT_get hT (show zck 246 3 1 3 3 = true by decide +kernel) (i := 3) (by omega) (by omega)
    exact Int.le_antisymm q.2 q.1
  · have q := zT_get hT (show zck 246 4 1 2 2 = true by decide +kernel) (i := 4) (by omega) (by omega)
    exact Int.le_antisymm q.2 q.1
  · have q := zT_get hT (show zck 246 5 1 1 1 = true by decide +kernel) (i := 5) (by omega) (by omega)
    exact Int.le_antisymm q.2 q.1
  · have q := zT_get hT (show zck 246 6 1 2 2 = true by decide +kernel) (i := 6) (by omega) (by omega)
    exact Int.le_antisymm q.2 q.1
  · have q := zT_get hT (show zck 246 7 1 3 3 = true by decide +kernel) (i := 7) (by omega) (by omega)
    exact Int.le_antisymm q.2 q.1
  · have q := zT_get hT (show zck 246 8 1 4 4 = true by decide +kernel) (i := 8) (by omega) (by omega)
    exact Int.le_antisymm q.2 q.1
  · have q := zT_get hT (show zck 246 9 1 2 2 = true by decide +kernel) (i := 9) (by omega) (by omega)
    exact Int.le_antisymm q.2 q.1
theorem zxL_bdN : ∀ k : Nat, k < 10 → 0 ≤ ([0, 1, 2, 3, 2, 1, 2, 3, 4, 2] : List Int).getD k 0 ∧ ([0, 1, 2, 3, 2, 1, 2, 3, 4, 2] : List Int).getD k 0 ≤ 4 := by decide
theorem zxL_bd {d : Int} (h0 : 0 ≤ d) (h1 : d ≤ 9) : 0 ≤ zxL d ∧ zxL d ≤ 4 := zxL_bdN d.toNat (by omega)
set_option maxRecDepth 100000 in
theorem zxk_len0 : (List.range 4000).all (fun y => decide (((zxY (y : Int)).length : Int) = zxk 4 (y : Int)) && Nat.ble (zxY (y : Int)).length 16) = true := by decide +kernel
theorem zxk_len {y : Int} (h0 : 0 ≤ y) (h1 : y ≤ 3999) : ((zxY y).length : Int) = zxk 4 y ∧ (zxY y).length ≤ 16 := by
  have h := List.all_eq_true.mp zxk_len0 y.toNat (List.mem_range.mpr (by omega))
  rw [Bool.and_eq_true, show ((y.toNat : Nat) : Int) = y by omega] at h
  exact ⟨of_decide_eq_true h.1, Nat.le_of_ble_eq_true h.2⟩
def zxcN (w : Int) : Nat → Int
  | 0 => 0
  | n + 1 => zxcN w n + (if zxk 4 ((n : Int) + 1) = w then 1 else 0)
def zxc (w y : Int) : Int := zxcN w y.toNat
theorem zxc_0 (w : Int) : zxc w 0 = 0 := rfl
theorem zxcN_s (w : Int) (n : Nat) : zxcN w (n + 1) = zxcN w n + (if zxk 4 ((n : Int) + 1) = w then 1 else 0) := rfl
theorem zxc_p {w y : Int} (h : 1 ≤ y) : zxc w y = zxc w (y - 1) + (if zxk 4 y = w then 1 else 0) := by
  unfold zxc
  rw [show y.toNat = (y - 1).toNat + 1 by omega, zxcN_s, show (((y - 1).toNat : Nat) : Int) + 1 = y by omega]
theorem zxcN_bd (w : Int) : ∀ n : Nat, 0 ≤ zxcN w n ∧ zxcN w n ≤ (n : Int)
  | 0 => ⟨Int.le_refl _, Int.le_refl _⟩
  | n + 1 => by
    have h := zxcN_bd w n
    rw [zxcN_s]
    split <;> omega
theorem zxc_bd {w y : Int} (h : 0 ≤ y) : 0 ≤ zxc w y ∧ zxc w y ≤ y := by
  have := zxcN_bd w y.toNat
  unfold zxc
  omega
