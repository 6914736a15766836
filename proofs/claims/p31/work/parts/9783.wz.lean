/-! WALTZ: both sides' numbers (printed by wip/p30/mk9783.py) -/
def zwLa0 : List Int := [1, 0, 0, 0, 1, 1, 0, 0, 1, 0, 1, 0, 3, 1, 1, 1, 3, 2, 0, 1, 4, 1, 2, 1, 8, 3, 3, 2, 9, 5, 2]
def zwLa1 : List Int := [2, 12, 4, 5, 3, 21, 8, 7, 6, 27, 13, 7, 7, 37, 14, 14, 9, 58, 23, 20, 15, 78, 35, 23, 20, 109, 43, 38, 28, 164, 66]
def zwLa2 : List Int := [55, 43, 227, 98, 71, 58, 319, 129, 109, 81, 467, 190, 156, 121, 656, 277, 210, 169, 928, 379, 311, 238, 1341, 549, 446, 346, 1896, 792, 617, 487, 2689]
def zwLa3 : List Int := [1104, 895, 690, 3859, 1585, 1279, 995, 5477, 2274, 1794, 1409, 7782, 3203, 2580, 1999, 11126, 4579, 3683, 2864, 15817, 6547, 5202, 4068, 22496, 9270, 7443, 5783, 32103, 13226, 10615, 8262]
def zwLa : List Int := zwLa0 ++ zwLa1 ++ zwLa2 ++ zwLa3
def zwLb0 : List Int := [1, 0, 0, 0, 0, 1, 0, 0, 0, 0, 1, 0, 0, 1, 1, 1, 0, 2, 0, 1, 0, 1, 2, 1, 0, 3, 3, 2, 0, 5, 2]
def zwLb1 : List Int := [2, 0, 4, 5, 3, 0, 8, 7, 6, 0, 13, 7, 7, 0, 14, 14, 9, 0, 23, 20, 15, 0, 35, 23, 20, 0, 43, 38, 28, 0, 66]
def zwLb2 : List Int := [55, 43, 0, 98, 71, 58, 0, 129, 109, 81, 0, 190, 156, 121, 0, 277, 210, 169, 0, 379, 311, 238, 0, 549, 446, 346, 0, 792, 617, 487, 0]
def zwLb3 : List Int := [1104, 895, 690, 0, 1585, 1279, 995, 0, 2274, 1794, 1409, 0, 3203, 2580, 1999, 0, 4579, 3683, 2864, 0, 6547, 5202, 4068, 0, 9270, 7443, 5783, 0, 13226, 10615, 8262]
def zwLb : List Int := zwLb0 ++ zwLb1 ++ zwLb2 ++ zwLb3
def zwaN (k : Nat) : Int := zwLa.getD k 0
def zwbN (k : Nat) : Int := zwLb.getD k 0
def zwa (j : Int) : Int := zwaN j.toNat
def zwb (j : Int) : Int := zwbN j.toNat
def zwtN (a : Nat) : Nat → Int
  | 0 => 0
  | k + 1 => zwtN a k + zwaN (4 * a + k + 1)
def zwt (a s : Int) : Int := zwtN a.toNat (s - 1).toNat
def zwpN (v k : Nat) : Nat → Int
  | 0 => 0
  | l + 1 => if k ≤ v ∧ l ≠ k then zwpN v k l + zwbN (4 * (v - k) + l) else zwpN v k l
def zwp (v k l : Int) : Int := zwpN v.toNat k.toNat l.toNat
def zwSN (n : Nat) : Nat → Int
  | 0 => 0
  | l + 1 => zwSN n l + zwbN (4 * n + l)
def zwS (n l : Int) : Int := zwSN n.toNat l.toNat
def zwz (n : Int) : Int := if 0 ≤ n ∧ n ≤ 30 then zwa (4 * n) else -1
set_option maxRecDepth 100000 in
theorem zwaN_bd : ∀ k : Nat, k < 124 → 0 ≤ zwaN k ∧ zwaN k ≤ 40000 := by decide +kernel
set_option maxRecDepth 100000 in
theorem zwbN_bd : ∀ k : Nat, k < 124 → 0 ≤ zwbN k ∧ zwbN k ≤ 40000 := by decide +kernel
set_option maxRecDepth 100000 in
theorem zwfN : ∀ a : Nat, a < 31 → ∀ s : Nat, s < 4 → 1 ≤ s → s ≤ a → zwaN ((a - s) * 4) - zwaN ((a - s) * 4 + s) = zwaN (4 * a + s) := by decide +kernel
set_option maxRecDepth 100000 in
theorem zwtN_end : ∀ a : Nat, a < 31 → 1 ≤ a → ∀ k : Nat, k < 4 → k = 3 ∨ k = a → zwtN a k = zwaN (4 * a) := by decide +kernel
set_option maxRecDepth 100000 in
theorem zwz0 : ∀ a : Nat, a < 31 → ∀ s : Nat, s < 4 → a < s → zwaN (4 * a + s) = 0 := by decide +kernel
set_option maxRecDepth 100000 in
theorem zwpN_end : ∀ v : Nat, v < 31 → ∀ k : Nat, k < 4 → 1 ≤ k → zwpN v k 4 = zwbN (4 * v + k) := by decide +kernel
set_option maxRecDepth 100000 in
theorem zwSN_end : ∀ n : Nat, n < 31 → zwSN n 4 = zwaN (4 * n) := by decide +kernel
set_option maxRecDepth 100000 in
theorem zwb4 : ∀ v : Nat, v < 31 → zwbN (4 * v) = if v = 0 then 1 else 0 := by decide +kernel
set_option maxRecDepth 100000 in
theorem zwpN_bd : ∀ v : Nat, v < 31 → ∀ k : Nat, k < 4 → ∀ l : Nat, l < 5 → 0 ≤ zwpN v k l ∧ zwpN v k l ≤ 160000 := by decide +kernel
set_option maxRecDepth 100000 in
theorem zwSN_bd : ∀ v : Nat, v < 31 → ∀ l : Nat, l < 5 → 0 ≤ zwSN v l ∧ zwSN v l ≤ 160000 := by decide +kernel
theorem zwa_bd {j : Int} (h0 : 0 ≤ j) (h1 : j < 124) : 0 ≤ zwa j ∧ zwa j ≤ 40000 := zwaN_bd _ (by omega)
theorem zwb_bd {j : Int} (h0 : 0 ≤ j) (h1 : j < 124) : 0 ≤ zwb j ∧ zwb j ≤ 40000 := zwbN_bd _ (by omega)
theorem zwp_bd {v k l : Int} (h0 : 0 ≤ v ∧ v ≤ 30) (h1 : 0 ≤ k ∧ k ≤ 3) (h2 : 0 ≤ l ∧ l ≤ 4) : 0 ≤ zwp v k l ∧ zwp v k l ≤ 160000 := zwpN_bd _ (by omega) _ (by omega) _ (by omega)
theorem zwS_bd {v l : Int} (h0 : 0 ≤ v ∧ v ≤ 30) (h2 : 0 ≤ l ∧ l ≤ 4) : 0 ≤ zwS v l ∧ zwS v l ≤ 160000 := zwSN_bd _ (by omega) _ (by omega)
theorem zwt_bd {a s : Int} (ha : 1 ≤ a ∧ a ≤ 30) (hs : 1 ≤ s ∧ s ≤ 4) : 0 ≤ zwt a s ∧ zwt a s ≤ 120000 := by
  have key : ∀ k : Nat, k ≤ 3 → 0 ≤ zwtN a.toNat k ∧ zwtN a.toNat k ≤ 40000 * (k : Int) := by
    intro k
    induction k with
    | zero => intro _; exact ⟨Int.le_refl _, Int.le_refl _⟩
    | succ k ih =>
      intro hk
      have h1 := ih (by omega)
      have h2 := zwaN_bd (4 * a.toNat + k + 1) (by omega)
      have e : zwtN a.toNat (k + 1) = zwtN a.toNat k + zwaN (4 * a.toNat + k + 1) := rfl
      rw [e]
      omega
  have h := key (s - 1).toNat (by omega)
  unfold zwt
  omega
theorem zwt_1 (a : Int) : zwt a 1 = 0 := rfl
theorem zwt_s {a s : Int} (ha : 0 ≤ a) (hs : 1 ≤ s) : zwt a (s + 1) = zwt a s + zwa (4 * a + s) := by
  unfold zwt zwa
  rw [show (s + 1 - 1).toNat = (s - 1).toNat + 1 by omega, show (4 * a + s).toNat = 4 * a.toNat + (s - 1).toNat + 1 by omega]
  rfl
theorem zwt_end {a s : Int} (ha : 1 ≤ a ∧ a ≤ 30) (hs : 1 ≤ s ∧ s ≤ 4) (h : s = 4 ∨ s = a + 1) : zwt a s = zwa (4 * a) := by
  have := zwtN_end a.toNat (by omega) (by omega) (s - 1).toNat (by omega) (by omega)
  unfold zwt zwa
  rw [this, show (4 * a).toNat = 4 * a.toNat by omega]
theorem zwf {a s : Int} (ha : 1 ≤ a ∧ a ≤ 30) (hs : 1 ≤ s ∧ s ≤ 3) (h : s ≤ a) : zwa ((a - s) * 4) - zwa ((a - s) * 4 + s) = zwa (4 * a + s) := by
  have := zwfN a.toNat (by omega) s.toNat (by omega) (by omega) (by omega)
  unfold zwa
  rw [show ((a - s) * 4).toNat = (a.toNat - s.toNat) * 4 by omega, show ((a - s) * 4 + s).toNat = (a.toNat - s.toNat) * 4 + s.toNat by omega, show (4 * a + s).toNat = 4 * a.toNat + s.toNat by omega]
  exact this
theorem zwa0 {a j : Int} (ha : 1 ≤ a ∧ a ≤ 30) (h1 : 4 * a + a < j) (h2 : j < 4 * a + 4) : zwa j = 0 := by
  have := zwz0 a.toNat (by omega) (j - 4 * a).toNat (by omega) (by omega)
  unfold zwa
  rw [show j.toNat = 4 * a.toNat + (j - 4 * a).toNat by omega]
  exact this
theorem zwp_0 (v k : Int) : zwp v k 0 = 0 := rfl
theorem zwp_s {v k l : Int} (h0 : 0 ≤ v) (h1 : 0 ≤ k) (h2 : 0 ≤ l) (h3 : k ≤ v) (h4 : l ≠ k) : zwp v k (l + 1) = zwp v k l + zwb (4 * (v - k) + l) := by
  unfold zwp zwb
  rw [show (l + 1).toNat = l.toNat + 1 by omega, show (4 * (v - k) + l).toNat = 4 * (v.toNat - k.toNat) + l.toNat by omega]
  exact if_pos ⟨by omega, by omega⟩
theorem zwp_n {v k l : Int} (h0 : 0 ≤ v) (h1 : 0 ≤ k) (h2 : 0 ≤ l) (h3 : ¬ (k ≤ v ∧ l ≠ k)) : zwp v k (l + 1) = zwp v k l := by
  unfold zwp
  rw [show (l + 1).toNat = l.toNat + 1 by omega]
  exact if_neg (fun h => h3 ⟨by omega, by omega⟩)
theorem zwpN_lt {v k : Nat} (h : v < k) : ∀ l : Nat, zwpN v k l = 0
  | 0 => rfl
  | l + 1 => by
    have e : zwpN v k (l + 1) = if k ≤ v ∧ l ≠ k then zwpN v k l + zwbN (4 * (v - k) + l) else zwpN v k l := rfl
    rw [e, if_neg (by omega)]
    exact zwpN_lt h l
theorem zwp_lt {v k : Int} (q : Int) (h0 : 0 ≤ v) (h1 : v < k) : zwp v k q = 0 := zwpN_lt (by omega) _
theorem zwp_4 {v k : Int} (h0 : 0 ≤ v ∧ v ≤ 30) (h1 : 1 ≤ k ∧ k ≤ 3) : zwp v k 4 = zwb (4 * v + k) := by
  have := zwpN_end v.toNat (by omega) k.toNat (by omega) (by omega)
  unfold zwb
  rw [show (4 * v + k).toNat = 4 * v.toNat + k.toNat by omega]
  exact this
theorem zwS_0 (n : Int) : zwS n 0 = 0 := rfl
theorem zwS_s {n l : Int} (h0 : 0 ≤ n) (h2 : 0 ≤ l) : zwS n (l + 1) = zwS n l + zwb (4 * n + l) := by
  unfold zwS zwb
  rw [show (l + 1).toNat = l.toNat + 1 by omega, show (4 * n + l).toNat = 4 * n.toNat + l.toNat by omega]
  rfl
theorem zwS_4 {n : Int} (h : 0 ≤ n ∧ n ≤ 30) : zwS n 4 = zwz n := by
  have := zwSN_end n.toNat (by omega)
  unfold zwz zwa
  rw [if_pos h, show (4 * n).toNat = 4 * n.toNat by omega]
  exact this
theorem zwb_4 {v : Int} (h : 0 ≤ v ∧ v ≤ 30) : zwb (4 * v) = if v = 0 then 1 else 0 := by
  have := zwb4 v.toNat (by omega)
  unfold zwb
  rw [show (4 * v).toNat = 4 * v.toNat by omega, this]
  by_cases h0 : v = 0
  · rw [if_pos (by omega), if_pos h0]
  · rw [if_neg (by omega), if_neg h0]
/-- a row emptied up to i -/
def zwK (μ : pm_Mem) (i : Int) : Prop := ∀ j : Int, 0 ≤ j → j < i → μ 203 j = 0
theorem zwK_0 {μ : pm_Mem} : zwK μ 0 := fun j h0 h1 => by omega
theorem zwK_s {μ : pm_Mem} {i : Int} (h : zwK μ i) : zwK (pm_up μ 203 i 0) (i + 1) := fun j h0 h1 => by
  by_cases hj : j = i
  · subst hj; exact pm_up_eq _ _ _ _
  · rw [pm_up_ne hj]; exact h j h0 (by omega)
/-- the class's row: done up to a, and of a's own places those below s -/
def zwI (μ : pm_Mem) (a s : Int) : Prop := (∀ j : Int, 0 ≤ j → j < 4 * a → μ 203 j = zwa j) ∧ (∀ j : Int, 4 * a < j → j < 4 * a + s → μ 203 j = zwa j) ∧ ∀ j : Int, 4 * a + s ≤ j → j < 124 → μ 203 j = 0
theorem zwI_get {μ : pm_Mem} {a s j : Int} (h : zwI μ a s) (h0 : 0 ≤ j) (h1 : j < 4 * a) : μ 203 j = zwa j := h.1 j h0 h1
theorem zwI_0 {μ : pm_Mem} (h : zwK μ 501) : zwI (pm_up μ 203 0 1) 1 1 := by
  refine ⟨fun j h0 h1 => ?_, fun j h0 h1 => by omega, fun j h0 h1 => ?_⟩
  · by_cases hj : j = 0
    · subst hj; rw [pm_up_eq]; decide +kernel
    · rw [pm_up_ne hj, h j h0 (by omega)]
      have hh : j = 1 ∨ j = 2 ∨ j = 3 := by omega
      rcases hh with rfl | rfl | rfl <;> decide +kernel
  · rw [pm_up_ne (by omega)]; exact h j (by omega) (by omega)
theorem zwI_up {μ : pm_Mem} {a s x : Int} (h : zwI μ a s) (hs : 1 ≤ s) (hx : x = zwa (4 * a + s)) : zwI (pm_up μ 203 (a * 4 + s) x) a (s + 1) := by
  obtain ⟨h1, h2, h3⟩ := h
  refine ⟨fun j j0 j1 => ?_, fun j j0 j1 => ?_, fun j j0 j1 => ?_⟩
  · rw [pm_up_ne (by omega)]; exact h1 j j0 j1
  · by_cases hj : j = a * 4 + s
    · subst hj; rw [pm_up_eq, hx, show a * 4 + s = 4 * a + s by omega]
    · rw [pm_up_ne hj]; exact h2 j j0 (by omega)
  · rw [pm_up_ne (by omega)]; exact h3 j (by omega) j1
theorem zwI_end {μ : pm_Mem} {a s x : Int} (h : zwI μ a s) (ha : 1 ≤ a ∧ a ≤ 30) (hs : 1 ≤ s ∧ s ≤ 4) (he : s = 4 ∨ s = a + 1) (hx : x = zwt a s) : zwI (pm_up μ 203 (a * 4) x) (a + 1) 1 := by
  have hq := zwt_end ha hs he
  obtain ⟨h1, h2, h3⟩ := h
  refine ⟨fun j j0 j1 => ?_, fun j j0 j1 => by omega, fun j j0 j1 => ?_⟩
  · by_cases hj : j = a * 4
    · subst hj; rw [pm_up_eq, hx, hq, show a * 4 = 4 * a by omega]
    · rw [pm_up_ne hj]
      by_cases hj1 : j < 4 * a
      · exact h1 j j0 hj1
      · by_cases hj2 : j < 4 * a + s
        · exact h2 j (by omega) hj2
        · rw [h3 j (by omega) (by omega)]
          exact (zwa0 ha (by omega) (by omega)).symm
  · rw [pm_up_ne (by omega)]; exact h3 j (by omega) j1
/-- the reference's row: done up to q -/
def zwJ (μ : pm_Mem) (q : Int) : Prop := ∀ j : Int, 0 ≤ j → j < q → μ 242 j = zwb j
theorem zwJ_0 {μ : pm_Mem} : zwJ μ (4 * 0) := fun j h0 h1 => by omega
theorem zwJ_get {μ : pm_Mem} {q j : Int} (h : zwJ μ q) (h0 : 0 ≤ j) (h1 : j < q) : μ 242 j = zwb j := h j h0 h1
theorem zwJ_up {μ : pm_Mem} {q i x : Int} (h : zwJ μ q) (hi : q ≤ i) : zwJ (pm_up μ 242 i x) q := fun j h0 h1 => by
  rw [pm_up_ne (by omega)]; exact h j h0 h1
theorem zwJ_s {μ : pm_Mem} {q : Int} (h : zwJ μ q) (hx : μ 242 q = zwb q) : zwJ μ (q + 1) := fun j h0 h1 => by
  by_cases hj : j = q
  · subst hj; exact hx
  · exact h j h0 (by omega)
theorem zwJ_eq {μ : pm_Mem} {q q' : Int} (h : zwJ μ q) (e : q' = q) : zwJ μ q' := e ▸ h
theorem zwJ_off {μ : pm_Mem} {q i x : Int} {r : Nat} (h : zwJ μ q) (hr : 242 ≠ r) : zwJ (pm_up μ r i x) q := fun j h0 h1 => by
  rw [pm_up_off hr]; exact h j h0 h1
theorem zwz_in {n : Int} (h : 0 ≤ n ∧ n ≤ 30) : zwz n = zwa (4 * n) := if_pos h
theorem zwz_out {n : Int} (h : ¬ (0 ≤ n ∧ n ≤ 30)) : zwz n = -1 := if_neg h
theorem zpxor {x y : Int} (hx : 0 ≤ x ∧ x ≤ 2147483647) (hy : 0 ≤ y ∧ y ≤ 2147483647) : 0 ≤ pm_xor x y := by
  unfold pm_xor
  have ex : (Int32.ofInt x).toInt = x := pm_of32 ⟨by omega, by omega⟩
  have ey : (Int32.ofInt y).toInt = y := pm_of32 ⟨by omega, by omega⟩
  have h1 : (Int32.ofInt x ^^^ Int32.ofInt y).toBitVec.msb = ((Int32.ofInt x).toBitVec.msb ^^ (Int32.ofInt y).toBitVec.msb) := by rw [Int32.toBitVec_xor, BitVec.msb_xor]
  rw [BitVec.msb_eq_toInt, BitVec.msb_eq_toInt, BitVec.msb_eq_toInt] at h1
  have e1 : (Int32.ofInt x ^^^ Int32.ofInt y).toBitVec.toInt = (Int32.ofInt x ^^^ Int32.ofInt y).toInt := rfl
  have e2 : (Int32.ofInt x).toBitVec.toInt = (Int32.ofInt x).toInt := rfl
  have e3 : (Int32.ofInt y).toBitVec.toInt = (Int32.ofInt y).toInt := rfl
  rw [e1, e2, e3, ex, ey, decide_eq_false (show ¬ x < 0 by omega), decide_eq_false (show ¬ y < 0 by omega)] at h1
  have := of_decide_eq_false h1
  omega
