/-! YEAR: letter by letter (printed by wip/p30/mk9800.py) -/
def zxW (d : Int) : Int := ([1000, 900, 500, 400, 100, 90, 50, 40, 10, 9, 5, 4, 1] : List Int).getD d.toNat 0
theorem zxW_at {μ : pm_Mem} (hT : zTJ μ) {d : Int} (h0 : 0 ≤ d) (h1 : d ≤ 12) : μ 247 d = zxW d := by
  have hh : d = 0 ∨ d = 1 ∨ d = 2 ∨ d = 3 ∨ d = 4 ∨ d = 5 ∨ d = 6 ∨ d = 7 ∨ d = 8 ∨ d = 9 ∨ d = 10 ∨ d = 11 ∨ d = 12 := by omega
  rcases hh with rfl | rfl | rfl | rfl | rfl | rfl | rfl | rfl | rfl | rfl | rfl | rfl | rfl
  · have q := zT_get hT (show zck 247 0 1 (1000) (1000) = true by decide +kernel) (i := 0) (by omega) (by omega)
    exact Int.le_antisymm q.2 q.1
  · have q := zT_get hT (show zck 247 1 1 (900) (900) = true by decide +kernel) (i := 1) (by omega) (by omega)
    exact Int.le_antisymm q.2 q.1
  · have q := zT_get hT (show zck 247 2 1 (500) (500) = true by decide +kernel) (i := 2) (by omega) (by omega)
    exact Int.le_antisymm q.2 q.1
  · have q := zT_get hT (show zck 247 3 1 (400) (400) = true by decide +kernel) (i := 3) (by omega) (by omega)
    exact Int.le_antisymm q.2 q.1
  · have q := zT_get hT (show zck 247 4 1 (100) (100) = true by decide +kernel) (i := 4) (by omega) (by omega)
    exact Int.le_antisymm q.2 q.1
  · have q := zT_get hT (show zck 247 5 1 (90) (90) = true by decide +kernel) (i := 5) (by omega) (by omega)
    exact Int.le_antisymm q.2 q.1
  · have q := zT_get hT (show zck 247 6 1 (50) (50) = true by decide +kernel) (i := 6) (by omega) (by omega)
    exact Int.le_antisymm q.2 q.1
  · have q := zT_get hT (show zck 247 7 1 (40) (40) = true by decide +kernel) (i := 7) (by omega) (by omega)
    exact Int.le_antisymm q.2 q.1
  · have q := zT_get hT (show zck 247 8 1 (10) (10) = true by decide +kernel) (i := 8) (by omega) (by omega)
    exact Int.le_antisymm q.2 q.1
  · have q := zT_get hT (show zck 247 9 1 (9) (9) = true by decide +kernel) (i := 9) (by omega) (by omega)
    exact Int.le_antisymm q.2 q.1
  · have q := zT_get hT (show zck 247 10 1 (5) (5) = true by decide +kernel) (i := 10) (by omega) (by omega)
    exact Int.le_antisymm q.2 q.1
  · have q := zT_get hT (show zck 247 11 1 (4) (4) = true by decide +kernel) (i := 11) (by omega) (by omega)
    exact Int.le_antisymm q.2 q.1
  · have q := zT_get hT (show zck 247 12 1 (1) (1) = true by decide +kernel) (i := 12) (by omega) (by omega)
    exact Int.le_antisymm q.2 q.1
def zxF (d : Int) : Int := ([6, 4, 5, 4, 4, 2, 3, 2, 2, 0, 1, 0, 0] : List Int).getD d.toNat 0
theorem zxF_at {μ : pm_Mem} (hT : zTJ μ) {d : Int} (h0 : 0 ≤ d) (h1 : d ≤ 12) : μ 248 d = zxF d := by
  have hh : d = 0 ∨ d = 1 ∨ d = 2 ∨ d = 3 ∨ d = 4 ∨ d = 5 ∨ d = 6 ∨ d = 7 ∨ d = 8 ∨ d = 9 ∨ d = 10 ∨ d = 11 ∨ d = 12 := by omega
  rcases hh with rfl | rfl | rfl | rfl | rfl | rfl | rfl | rfl | rfl | rfl | rfl | rfl | rfl
  · have q := zT_get hT (show zck 248 0 1 (6) (6) = true by decide +kernel) (i := 0) (by omega) (by omega)
    exact Int.le_antisymm q.2 q.1
  · have q := zT_get hT (show zck 248 1 1 (4) (4) = true by decide +kernel) (i := 1) (by omega) (by omega)
    exact Int.le_antisymm q.2 q.1
  · have q := zT_get hT (show zck 248 2 1 (5) (5) = true by decide +kernel) (i := 2) (by omega) (by omega)
    exact Int.le_antisymm q.2 q.1
  · have q := zT_get hT (show zck 248 3 1 (4) (4) = true by decide +kernel) (i := 3) (by omega) (by omega)
    exact Int.le_antisymm q.2 q.1
  · have q := zT_get hT (show zck 248 4 1 (4) (4) = true by decide +kernel) (i := 4) (by omega) (by omega)
    exact Int.le_antisymm q.2 q.1
  · have q := zT_get hT (show zck 248 5 1 (2) (2) = true by decide +kernel) (i := 5) (by omega) (by omega)
    exact Int.le_antisymm q.2 q.1
  · have q := zT_get hT (show zck 248 6 1 (3) (3) = true by decide +kernel) (i := 6) (by omega) (by omega)
    exact Int.le_antisymm q.2 q.1
  · have q := zT_get hT (show zck 248 7 1 (2) (2) = true by decide +kernel) (i := 7) (by omega) (by omega)
    exact Int.le_antisymm q.2 q.1
  · have q := zT_get hT (show zck 248 8 1 (2) (2) = true by decide +kernel) (i := 8) (by omega) (by omega)
    exact Int.le_antisymm q.2 q.1
  · have q := zT_get hT (show zck 248 9 1 (0) (0) = true by decide +kernel) (i := 9) (by omega) (by omega)
    exact Int.le_antisymm q.2 q.1
  · have q := zT_get hT (show zck 248 10 1 (1) (1) = true by decide +kernel) (i := 10) (by omega) (by omega)
    exact Int.le_antisymm q.2 q.1
  · have q := zT_get hT (show zck 248 11 1 (0) (0) = true by decide +kernel) (i := 11) (by omega) (by omega)
    exact Int.le_antisymm q.2 q.1
  · have q := zT_get hT (show zck 248 12 1 (0) (0) = true by decide +kernel) (i := 12) (by omega) (by omega)
    exact Int.le_antisymm q.2 q.1
def zxG (d : Int) : Int := ([-1, 6, -1, 5, -1, 4, -1, 3, -1, 2, -1, 1, -1] : List Int).getD d.toNat 0
theorem zxG_at {μ : pm_Mem} (hT : zTJ μ) {d : Int} (h0 : 0 ≤ d) (h1 : d ≤ 12) : μ 249 d = zxG d := by
  have hh : d = 0 ∨ d = 1 ∨ d = 2 ∨ d = 3 ∨ d = 4 ∨ d = 5 ∨ d = 6 ∨ d = 7 ∨ d = 8 ∨ d = 9 ∨ d = 10 ∨ d = 11 ∨ d = 12 := by omega
  rcases hh with rfl | rfl | rfl | rfl | rfl | rfl | rfl | rfl | rfl | rfl | rfl | rfl | rfl
  · have q := zT_get hT (show zck 249 0 1 (-1) (-1) = true by decide +kernel) (i := 0) (by omega) (by omega)
    exact Int.le_antisymm q.2 q.1
  · have q := zT_get hT (show zck 249 1 1 (6) (6) = true by decide +kernel) (i := 1) (by omega) (by omega)
    exact Int.le_antisymm q.2 q.1
  · have q := zT_get hT (show zck 249 2 1 (-1) (-1) = true by decide +kernel) (i := 2) (by omega) (by omega)
    exact Int.le_antisymm q.2 q.1
  · have q := zT_get hT (show zck 249 3 1 (5) (5) = true by decide +kernel) (i := 3) (by omega) (by omega)
    exact Int.le_antisymm q.2 q.1
  · have q := zT_get hT (show zck 249 4 1 (-1) (-1) = true by decide +kernel) (i := 4) (by omega) (by omega)
    exact Int.le_antisymm q.2 q.1
  · have q := zT_get hT (show zck 249 5 1 (4) (4) = true by decide +kernel) (i := 5) (by omega) (by omega)
    exact Int.le_antisymm q.2 q.1
  · have q := zT_get hT (show zck 249 6 1 (-1) (-1) = true by decide +kernel) (i := 6) (by omega) (by omega)
    exact Int.le_antisymm q.2 q.1
  · have q := zT_get hT (show zck 249 7 1 (3) (3) = true by decide +kernel) (i := 7) (by omega) (by omega)
    exact Int.le_antisymm q.2 q.1
  · have q := zT_get hT (show zck 249 8 1 (-1) (-1) = true by decide +kernel) (i := 8) (by omega) (by omega)
    exact Int.le_antisymm q.2 q.1
  · have q := zT_get hT (show zck 249 9 1 (2) (2) = true by decide +kernel) (i := 9) (by omega) (by omega)
    exact Int.le_antisymm q.2 q.1
  · have q := zT_get hT (show zck 249 10 1 (-1) (-1) = true by decide +kernel) (i := 10) (by omega) (by omega)
    exact Int.le_antisymm q.2 q.1
  · have q := zT_get hT (show zck 249 11 1 (1) (1) = true by decide +kernel) (i := 11) (by omega) (by omega)
    exact Int.le_antisymm q.2 q.1
  · have q := zT_get hT (show zck 249 12 1 (-1) (-1) = true by decide +kernel) (i := 12) (by omega) (by omega)
    exact Int.le_antisymm q.2 q.1
theorem zxW_bdN : ∀ k : Nat, k < 13 → 1 ≤ ([1000, 900, 500, 400, 100, 90, 50, 40, 10, 9, 5, 4, 1] : List Int).getD k 0 := by decide
theorem zxW_bd {d : Int} (h0 : 0 ≤ d) (h1 : d ≤ 12) : 1 ≤ zxW d := zxW_bdN d.toNat (by omega)
def zxI : Nat → Int → Int → List Int × Int
  | 0, _, r => ([], r)
  | n + 1, s, r => if r < zxW s then ([], r) else (zxF s :: ((if zxG s = -1 then [] else [zxG s]) ++ (zxI n s (r - zxW s)).1), (zxI n s (r - zxW s)).2)
def zxO : Nat → Int → List Int
  | 0, _ => []
  | m + 1, r => (zxI 3 ((12 - m : Nat) : Int) r).1 ++ zxO m (zxI 3 ((12 - m : Nat) : Int) r).2
def zxn (l : List Int) (k : Int) : Int := if 0 ≤ k ∧ k < l.length then l.getD k.toNat 0 else -1
theorem zxI_0 (s r : Int) : zxI 0 s r = ([], r) := rfl
theorem zxI_lt {n : Nat} {s r : Int} (h : r < zxW s) : zxI (n + 1) s r = ([], r) := if_pos h
theorem zxI_ge {n : Nat} {s r : Int} (h : zxW s ≤ r) : zxI (n + 1) s r = (zxF s :: ((if zxG s = -1 then [] else [zxG s]) ++ (zxI n s (r - zxW s)).1), (zxI n s (r - zxW s)).2) := if_neg (by omega)
theorem zxO_s (m : Nat) (r : Int) : zxO (m + 1) r = (zxI 3 ((12 - m : Nat) : Int) r).1 ++ zxO m (zxI 3 ((12 - m : Nat) : Int) r).2 := rfl
theorem zxn_nil (k : Int) : zxn [] k = -1 := if_neg (fun h => by have := h.2; simp at this; omega)
theorem zxn_0 (x : Int) (l : List Int) : zxn (x :: l) 0 = x := by
  unfold zxn
  rw [if_pos ⟨by omega, by simp only [List.length_cons]; omega⟩]
  rfl
theorem zxn_s {x k : Int} {l : List Int} (h : k ≠ 0) : zxn (x :: l) k = zxn l (k - 1) := by
  unfold zxn
  by_cases hc : 0 ≤ k ∧ k < ((x :: l).length : Int)
  · have hl : ((x :: l).length : Int) = (l.length : Int) + 1 := by simp
    rw [if_pos hc, if_pos ⟨by omega, by omega⟩, show k.toNat = (k - 1).toNat + 1 by omega]
    rfl
  · have hl : ((x :: l).length : Int) = (l.length : Int) + 1 := by simp
    rw [if_neg hc, if_neg (fun q => hc ⟨by omega, by omega⟩)]
set_option maxRecDepth 100000 in
theorem zxO_all : (List.range 4000).all (fun y => decide (zxO 13 (y : Int) = zxY (y : Int))) = true := by decide +kernel
theorem zxO_eq {y : Int} (h0 : 0 ≤ y) (h1 : y ≤ 3999) : zxO 13 y = zxY y := by
  have h := List.all_eq_true.mp zxO_all y.toNat (List.mem_range.mpr (by omega))
  rw [show ((y.toNat : Nat) : Int) = y by omega] at h
  exact of_decide_eq_true h
/-- what the inner loop has still to tell -/
def zxP (n : Nat) (s r : Int) : List Int := (zxI n s r).1 ++ zxO (12 - s).toNat (zxI n s r).2
theorem zxP_end {n : Nat} {s r : Int} (h : n = 0 ∨ r < zxW s) : zxP n s r = zxO (12 - s).toNat r := by
  unfold zxP
  rcases h with rfl | h
  · rfl
  · cases n with
    | zero => rfl
    | succ n => rw [zxI_lt h]; rfl
theorem zxP_1 {n : Nat} {s r : Int} (h : zxW s ≤ r) (hg : zxG s = -1) : zxP (n + 1) s r = zxF s :: zxP n s (r - zxW s) := by
  unfold zxP
  rw [zxI_ge h, if_pos hg]
  rfl
theorem zxP_2 {n : Nat} {s r : Int} (h : zxW s ≤ r) (hg : zxG s ≠ -1) : zxP (n + 1) s r = zxF s :: zxG s :: zxP n s (r - zxW s) := by
  unfold zxP
  rw [zxI_ge h, if_neg hg]
  rfl
theorem zxP_f {n : Nat} {s r : Int} (h : zxW s ≤ r) : ∃ l, zxP (n + 1) s r = zxF s :: l := by
  by_cases hg : zxG s = -1
  · exact ⟨_, zxP_1 h hg⟩
  · exact ⟨_, zxP_2 h hg⟩
theorem zxP_3 {s r : Int} (h0 : 0 ≤ s) (h1 : s ≤ 12) : zxO (13 - s).toNat r = zxP 3 s r := by
  rw [show (13 - s).toNat = (12 - s).toNat + 1 by omega, zxO_s, show ((12 - (12 - s).toNat : Nat) : Int) = s by omega]
  rfl
def zyz (y w : Int) : Int := if 1 ≤ y ∧ y ≤ 3999 then (if w = 0 then zxk 4 y else if 101 ≤ w ∧ w ≤ 115 then zxc (w - 100) y else zxn (zxY y) (w - 1)) else -1
theorem zyz_out {y w : Int} (h : ¬ (1 ≤ y ∧ y ≤ 3999)) : zyz y w = -1 := if_neg h
theorem zyz_0 {y w : Int} (h : 1 ≤ y ∧ y ≤ 3999) (h0 : w = 0) : zyz y w = zxk 4 y := by unfold zyz; rw [if_pos h, if_pos h0]
theorem zyz_1 {y w : Int} (h : 1 ≤ y ∧ y ≤ 3999) (h0 : w ≠ 0) (h1 : 101 ≤ w ∧ w ≤ 115) : zyz y w = zxc (w - 100) y := by unfold zyz; rw [if_pos h, if_neg h0, if_pos h1]
theorem zyz_2 {y w : Int} (h : 1 ≤ y ∧ y ≤ 3999) (h0 : w ≠ 0) (h1 : ¬ (101 ≤ w ∧ w ≤ 115)) : zyz y w = zxn (zxY y) (w - 1) := by unfold zyz; rw [if_pos h, if_neg h0, if_neg h1]
theorem zxn_w {l : List Int} {w : Int} (hl : l.length ≤ 16) (hw : -2147483648 ≤ w ∧ w ≤ 2147483647) : zxn l (pm_w32 (w - 1)) = zxn l (w - 1) := by
  by_cases h : w = -2147483648
  · subst h
    have e : pm_w32 (-2147483648 - 1) = 2147483647 := by decide
    rw [e]
    unfold zxn
    rw [if_neg (by omega), if_neg (by omega)]
  · rw [show pm_w32 (w - 1) = w - 1 from pm_of32 ⟨by omega, by omega⟩]
theorem zxA_at {μ : pm_Mem} {l : List Int} {w : Int} (h : zxA μ l) (h0 : 1 ≤ w) (h1 : w ≤ μ 205 62) : μ 240 (w - 1) = zxn l (w - 1) := by
  obtain ⟨a1, a2⟩ := h
  unfold zxn
  rw [if_pos ⟨by omega, by omega⟩, ← a2 (w - 1).toNat (by omega), show (((w - 1).toNat : Nat) : Int) = w - 1 by omega]
theorem zxA_no {μ : pm_Mem} {l : List Int} {w : Int} (h : zxA μ l) (h0 : ¬ (1 ≤ w ∧ w ≤ μ 205 62)) : zxn l (w - 1) = -1 := by
  obtain ⟨a1, -⟩ := h
  unfold zxn
  rw [if_neg (fun q => h0 ⟨by omega, by omega⟩)]
