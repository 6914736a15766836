/-! typed memories of this claim's regions; what holds of the guarded ones: the law's codes, the calendar's deeds, the image -/
def zNR : Nat := 250
def zTy (μ : pm_Mem) : Prop := ∀ (r : Nat) (g : sx_Rg) (k : Nat) (t : sx_Ty), r < zNR → zRT2 r = some g → k < sx_wd g → sx_ft g k = some t → t.1 ≤ 1 → t.2.1 ≤ μ r (k : Int) ∧ μ r (k : Int) ≤ t.2.2
theorem zTy_of {Sg : Nat → Option Nat} {B0 : Nat → Prop} {μ : pm_Mem} (hw : sx_Wd zNR zRT2 B0 Sg) (h : pm_T zRT2 Sg μ) : zTy μ := fun r g k t h1 h2 h3 h4 h5 => by
  obtain ⟨q, hq⟩ := hw.2.1 r h1
  exact h q r g k t hq h2 h3 h4 h5
theorem zTy_T {Sg : Nat → Option Nat} {B0 : Nat → Prop} {μ : pm_Mem} (hw : sx_Wd zNR zRT2 B0 Sg) (h : zTy μ) : pm_T zRT2 Sg μ := fun q r g k t h1 h2 h3 h4 h5 => h r g k t (hw.1 q r h1) h2 h3 h4 h5
/-- a deed: what, of whom, how many -/
def zDeed (k w n : Int) : Prop := 0 ≤ w ∧ w ≤ 17 ∧ 0 ≤ n ∧ n ≤ 999 ∧ (k = 0 → w ≤ 11 ∧ n ≤ 99) ∧ (k = 1 → w ≤ 11 ∧ n ≤ 99) ∧ (k = 3 → w ≤ 11 ∧ n ≤ 17)
def zDeeds (f : Int → Int) : Prop := ∀ j : Int, 0 ≤ j → j < 16 → zDeed (f (4 * j + 1)) (f (4 * j + 2)) (f (4 * j + 3))
/-- codes from k on, n of them, with h values that wait, can be reckoned -/
def zSafe (op arg : Int → Int) : Nat → Int → Int → Prop
  | 0, _, _ => True
  | n + 1, k, h => ((op k = 0 ∨ op k = 1) ∧ (op k = 1 → 0 ≤ arg k ∧ arg k ≤ 10) ∧ zSafe op arg n (k + 1) (h + 1)) ∨ (op k = 9 ∧ 1 ≤ h ∧ zSafe op arg n (k + 1) h) ∨ (op k ≠ 0 ∧ op k ≠ 1 ∧ op k ≠ 9 ∧ 2 ≤ h ∧ (op k = 5 → op (k - 1) = 0 ∧ 1 ≤ arg (k - 1)) ∧ zSafe op arg n (k + 1) (h - 1))
def zSeg (op arg : Int → Int) (a b : Int) : Prop := zSafe op arg (b - a).toNat a 0
def zLaw (many : Int) (fr wh to op arg : Int → Int) : Prop := 0 ≤ many ∧ many ≤ 16 ∧ ∀ l : Int, 0 ≤ l → l < many → 0 ≤ fr l ∧ fr l ≤ wh l ∧ wh l ≤ to l ∧ to l ≤ 400 ∧ zSeg op arg (fr l) (wh l) ∧ zSeg op arg (wh l) (to l)
/-- the image's stretches: from where, how far apart, how many, their bounds -/
def zIts : List (Int × Int × Int × Int × Int) := [(1, 1, 1, 0, 11), (3, 1, 1, 0, 150), (4, 1, 24, 0, 99), (40, 1, 12, 0, 1), (52, 1, 24, 0, 18), (88, 1, 18, -1000, 9999), (106, 1, 18, 0, 12), (160, 1, 1, 0, 12), (161, 1, 1, 0, 18), (162, 1, 1, 0, 16), (163, 1, 1, 0, 16), (164, 1, 1, 0, 16), (165, 1, 1, 0, 6), (166, 1, 1, 0, 10), (167, 1, 1, 0, 8), (168, 1, 1, 0, 12), (169, 1, 1, 0, 10), (170, 1, 1, 0, 8), (171, 1, 18, 0, 9), (189, 3, 16, -1, 17), (190, 3, 16, -1, 11), (191, 3, 16, 0, 12), (237, 4, 16, -1, 999), (238, 4, 16, 0, 3), (239, 4, 16, -1, 17), (240, 4, 16, -1, 999), (301, 1, 144, 0, 99), (445, 1, 6, 0, 50), (451, 1, 4, -99, 99), (455, 3, 10, 0, 20), (456, 3, 10, 0, 99), (457, 3, 10, 0, 99), (485, 2, 8, 0, 99), (486, 2, 8, 0, 99), (501, 1, 12, -99, 99), (514, 5, 150, 0, 11), (515, 5, 150, 0, 4), (516, 5, 150, 0, 17), (1263, 1, 1, 0, 16), (1264, 4, 16, 0, 2), (1265, 4, 16, 0, 400), (1266, 4, 16, 0, 400), (1267, 4, 16, 0, 400), (1328, 2, 400, 0, 12), (1329, 2, 400, -1, 99999)]
def zIm (f : Int → Int) : Prop := (∀ q ∈ zIts, ∀ j : Int, 0 ≤ j → j < q.2.2.1 → q.2.2.2.1 ≤ f (q.1 + q.2.1 * j) ∧ f (q.1 + q.2.1 * j) ≤ q.2.2.2.2) ∧ zDeeds (fun i => f (237 + i)) ∧ zLaw (f 1263) (fun l => f (1265 + 4 * l)) (fun l => f (1266 + 4 * l)) (fun l => f (1267 + 4 * l)) (fun i => f (1328 + 2 * i)) (fun i => f (1329 + 2 * i))
def zJf (many fr wh to op arg de im : Int → Int) : Prop := zLaw (many 0) fr wh to op arg ∧ zDeeds de ∧ zIm im
def zJ (μ : pm_Mem) : Prop := zJf (μ 213) (μ 215) (μ 216) (μ 217) (μ 218) (μ 219) (μ 222) (μ 245)
def zTJ (μ : pm_Mem) : Prop := zTy μ ∧ zJ μ
noncomputable def zgd (r : Nat) : Bool := [213, 215, 216, 217, 218, 219, 222, 245].any (fun x => Nat.beq x r)
theorem pm_up_row {μ : pm_Mem} {r r' : Nat} {i x : Int} (h : r' ≠ r) : pm_up μ r i x r' = μ r' := funext fun j => if_neg (fun q => h q.1)
theorem zJ_up {μ : pm_Mem} {r : Nat} {i x : Int} (h : zgd r = false) (hJ : zJ μ) : zJ (pm_up μ r i x) := by
  have key : ∀ x ∈ [213, 215, 216, 217, 218, 219, 222, 245], x ≠ r := fun y hy he => by
    unfold zgd at h
    have := List.any_eq_false.mp h y hy
    rw [he] at this
    exact this (Nat.beq_refl r)
  unfold zJ
  rw [pm_up_row (key 213 (by decide)), pm_up_row (key 215 (by decide)), pm_up_row (key 216 (by decide)), pm_up_row (key 217 (by decide)), pm_up_row (key 218 (by decide)), pm_up_row (key 219 (by decide)), pm_up_row (key 222 (by decide)), pm_up_row (key 245 (by decide))]
  exact hJ
noncomputable def zck1 (g : sx_Rg) (lo hi : Int) (k : Nat) : Bool := Nat.blt k (sx_wd g) && (match sx_ft g k with
  | some t => Nat.beq t.1 0 && decide (t.2.1 = lo) && decide (t.2.2 = hi)
  | none => false)
theorem zck1_ok {g : sx_Rg} {lo hi : Int} {k : Nat} (h : zck1 g lo hi k = true) : k < sx_wd g ∧ sx_ft g k = some (0, lo, hi) := by
  unfold zck1 at h
  simp only [Bool.and_eq_true] at h
  obtain ⟨k1, k2⟩ := h
  refine ⟨Nat.blt_eq.mp k1, ?_⟩
  split at k2
  · rename_i t ht
    simp only [Bool.and_eq_true, decide_eq_true_eq] at k2
    obtain ⟨⟨e1, e2⟩, e3⟩ := k2
    have e1 := Nat.eq_of_beq_eq_true e1
    obtain ⟨t1, t2, t3⟩ := t
    have e1 : t1 = 0 := e1
    have e2 : t2 = lo := e2
    have e3 : t3 = hi := e3
    subst e1; subst e2; subst e3
    exact ht
  · cases k2
/-- the places from a on, n of them, are of one type -/
noncomputable def zck (r a n : Nat) (lo hi : Int) : Bool := match zRT2 r with
  | some g => Nat.blt r zNR && (List.range n).all (fun j => zck1 g lo hi (a + j))
  | none => false
/-- the places c, P + c, 2 P + c .., n of them, are of one type -/
noncomputable def zckp (r P c n : Nat) (lo hi : Int) : Bool := match zRT2 r with
  | some g => Nat.blt r zNR && (List.range n).all (fun j => zck1 g lo hi (P * j + c))
  | none => false
theorem zck_ok {r a n : Nat} {lo hi : Int} (h : zck r a n lo hi = true) : ∃ g, zRT2 r = some g ∧ r < zNR ∧ ∀ k, a ≤ k → k < a + n → k < sx_wd g ∧ sx_ft g k = some (0, lo, hi) := by
  unfold zck at h
  split at h
  · rename_i g hg
    simp only [Bool.and_eq_true] at h
    refine ⟨g, hg, Nat.blt_eq.mp h.1, fun k h1 h2 => ?_⟩
    have := List.all_eq_true.mp h.2 (k - a) (List.mem_range.mpr (by omega))
    rw [show a + (k - a) = k by omega] at this
    exact zck1_ok this
  · cases h
theorem zckp_ok {r P c n : Nat} {lo hi : Int} (h : zckp r P c n lo hi = true) : ∃ g, zRT2 r = some g ∧ r < zNR ∧ ∀ j, j < n → P * j + c < sx_wd g ∧ sx_ft g (P * j + c) = some (0, lo, hi) := by
  unfold zckp at h
  split at h
  · rename_i g hg
    simp only [Bool.and_eq_true] at h
    exact ⟨g, hg, Nat.blt_eq.mp h.1, fun j h1 => zck1_ok (List.all_eq_true.mp h.2 j (List.mem_range.mpr h1))⟩
  · cases h
theorem zTy_at {μ : pm_Mem} (hT : zTy μ) {r k : Nat} {g : sx_Rg} {lo hi i : Int} (h1 : zRT2 r = some g) (h2 : r < zNR) (h3 : k < sx_wd g) (h4 : sx_ft g k = some (0, lo, hi)) (h5 : i = (k : Int)) : lo ≤ μ r i ∧ μ r i ≤ hi := by
  subst h5
  exact hT r g k _ h2 h1 h3 h4 (Nat.zero_le _)
theorem zTy_up {μ : pm_Mem} (hT : zTy μ) {r k : Nat} {g : sx_Rg} {lo hi i x : Int} (h1 : zRT2 r = some g) (h4 : sx_ft g k = some (0, lo, hi)) (h5 : i = (k : Int)) (h6 : lo ≤ x) (h7 : x ≤ hi) : zTy (pm_up μ r i x) := by
  subst h5
  intro r' g' k' t e1 e2 e3 e4 e5
  unfold pm_up
  split
  · rename_i hc
    obtain ⟨rfl, hk⟩ := hc
    rw [h1] at e2
    cases e2
    have : k' = k := by omega
    subst this
    rw [h4] at e4
    cases e4
    exact ⟨h6, h7⟩
  · exact hT r' g' k' t e1 e2 e3 e4 e5
theorem zT_get {μ : pm_Mem} (hT : zTJ μ) {r a n : Nat} {lo hi : Int} (h : zck r a n lo hi = true) {i : Int} (h1 : (a : Int) ≤ i) (h2 : i < a + n) : lo ≤ μ r i ∧ μ r i ≤ hi := by
  obtain ⟨g, g1, g2, g3⟩ := zck_ok h
  obtain ⟨k1, k2⟩ := g3 i.toNat (by omega) (by omega)
  exact zTy_at hT.1 g1 g2 k1 k2 (by omega)
theorem zT_up {μ : pm_Mem} (hT : zTJ μ) {r a n : Nat} {lo hi : Int} (h : zck r a n lo hi = true) (hg : zgd r = false) {i x : Int} (h1 : (a : Int) ≤ i) (h2 : i < a + n) (h3 : lo ≤ x) (h4 : x ≤ hi) : zTJ (pm_up μ r i x) := by
  obtain ⟨g, g1, g2, g3⟩ := zck_ok h
  obtain ⟨k1, k2⟩ := g3 i.toNat (by omega) (by omega)
  exact ⟨zTy_up hT.1 g1 k2 (by omega) h3 h4, zJ_up hg hT.2⟩
theorem zT_getp {μ : pm_Mem} (hT : zTJ μ) {r P c n : Nat} {lo hi : Int} (h : zckp r P c n lo hi = true) {i z : Int} (hi0 : i = P * z + c) (h1 : 0 ≤ z) (h2 : z < n) : lo ≤ μ r i ∧ μ r i ≤ hi := by
  obtain ⟨g, g1, g2, g3⟩ := zckp_ok h
  obtain ⟨k1, k2⟩ := g3 z.toNat (by omega)
  refine zTy_at hT.1 g1 g2 k1 k2 ?_
  rw [hi0]
  simp only [Int.natCast_add, Int.natCast_mul]
  rw [Int.toNat_of_nonneg h1]
theorem zT_upp {μ : pm_Mem} (hT : zTJ μ) {r P c n : Nat} {lo hi : Int} (h : zckp r P c n lo hi = true) (hg : zgd r = false) {i z x : Int} (hi0 : i = P * z + c) (h1 : 0 ≤ z) (h2 : z < n) (h3 : lo ≤ x) (h4 : x ≤ hi) : zTJ (pm_up μ r i x) := by
  obtain ⟨g, g1, g2, g3⟩ := zckp_ok h
  obtain ⟨k1, k2⟩ := g3 z.toNat (by omega)
  refine ⟨zTy_up hT.1 g1 k2 ?_ h3 h4, zJ_up hg hT.2⟩
  rw [hi0]
  simp only [Int.natCast_add, Int.natCast_mul]
  rw [Int.toNat_of_nonneg h1]
theorem pm_in_mk {z : Int} (h1 : -2147483648 ≤ z) (h2 : z ≤ 2147483647) : pm_in z := ⟨h1, h2⟩
theorem zif0 {P : Prop} [Decidable P] (h : (if P then (1 : Int) else 0) = 0) : ¬ P := fun hp => by rw [if_pos hp] at h; omega
theorem zif1 {P : Prop} [Decidable P] (h : (if P then (1 : Int) else 0) ≠ 0) : P := Classical.byContradiction fun hp => by rw [if_neg hp] at h; exact h rfl
theorem zif01 (P : Prop) [Decidable P] : (if P then (1 : Int) else 0) = 0 ∨ (if P then (1 : Int) else 0) = 1 := by
  by_cases h : P
  · exact Or.inr (if_pos h)
  · exact Or.inl (if_neg h)
theorem pm_up_eq (μ : pm_Mem) (r : Nat) (i x : Int) : pm_up μ r i x r i = x := if_pos ⟨rfl, rfl⟩
theorem pm_up_ne {μ : pm_Mem} {r : Nat} {i x j : Int} (h : j ≠ i) : pm_up μ r i x r j = μ r j := if_neg (fun q => h q.2)
theorem pm_up_off {μ : pm_Mem} {r r' : Nat} {i x j : Int} (h : r' ≠ r) : pm_up μ r i x r' j = μ r' j := if_neg (fun q => h q.1)
theorem zw32 (x : Int) : -2147483648 ≤ pm_w32 x ∧ pm_w32 x ≤ 2147483647 := by
  unfold pm_w32
  have := Int32.le_toInt (Int32.ofInt x)
  have := Int32.toInt_lt (Int32.ofInt x)
  omega
abbrev zW (D : va_G) (Wm : Nat) (ST : List (String × String × String × Nat)) (b0 : sx_B) (l : Launch) (Sg : Nat → Option Nat) := pm_W D zCl zRT2 Wm (["ArcadePoles$Arcade"], ST) zTB b0 l Sg
abbrev zC (D : va_G) (Wm : Nat) (ST : List (String × String × String × Nat)) (b0 : sx_B) (l : Launch) (Sg : Nat → Option Nat) := pm_C D zCl zRT2 Wm (["ArcadePoles$Arcade"], ST) zTB b0 l Sg
abbrev zKK (ST : List (String × String × String × Nat)) := pm_K zCl zRT2 sxCJ (["ArcadePoles$Arcade"], ST) zTB zMT zCDs
