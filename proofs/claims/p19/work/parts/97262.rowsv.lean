/-! whole rows: what was copied, what stays -/
theorem pm_cq_row {μ : pm_Mem} {r rs r' : Nat} {sp dp n : Int} (h : r' ≠ r) : pm_cq μ r rs sp dp n r' = μ r' := funext fun j => if_neg (fun q => h q.1)
theorem pm_cq_at {μ : pm_Mem} {r rs : Nat} {n i : Int} (h0 : 0 ≤ i) (h1 : i < n) : pm_cq μ r rs 0 0 n r i = μ rs i := by
  unfold pm_cq
  rw [if_pos ⟨rfl, h0, by omega⟩]
  congr 1
  omega
theorem zT_cq {μ : pm_Mem} (hT : zTJ none μ) {r n rs m : Nat} {lo hi lo' hi' : Int} (h : zck r 0 n lo hi = true) (h' : zck rs 0 m lo' hi' = true) (hl : lo ≤ lo') (hh : hi' ≤ hi) (hg : zgd r = false) {sp dp c : Int} (h0 : 0 ≤ sp) (h1 : 0 ≤ dp) (h2 : sp + c ≤ m) (h3 : dp + c ≤ n) : zTJ none (pm_cq μ r rs sp dp c) := by
  refine ⟨fun r' g k t q1 q2 q3 q4 q5 => ?_, ?_⟩
  · unfold pm_cq
    split
    · rename_i hc
      obtain ⟨rfl, hc1, hc2⟩ := hc
      obtain ⟨g', e1, e2, e3⟩ := zck_ok h
      obtain ⟨k1, k2⟩ := e3 k (by omega) (by omega)
      have eg : g' = g := by first | exact Option.some.inj (e1.symm.trans q2) | exact Option.some.inj (e2.symm.trans q2)
      rw [eg, q4] at k2
      cases k2
      have := zT_get hT h' (i := (k : Int) - dp + sp) (by omega) (by omega)
      exact ⟨Int.le_trans hl this.1, Int.le_trans this.2 hh⟩
    · exact hT.1 r' g k t q1 q2 q3 q4 q5
  · have key : ∀ x ∈ [213, 215, 216, 217, 218, 219, 222, 245], x ≠ r := fun y hy he => by
      unfold zgd at hg
      have := List.any_eq_false.mp hg y hy
      rw [he] at this
      exact this (Nat.beq_refl r)
    have hJ := hT.2
    unfold zJ at hJ ⊢
    rw [pm_cq_row (key 213 (by decide)), pm_cq_row (key 215 (by decide)), pm_cq_row (key 216 (by decide)), pm_cq_row (key 217 (by decide)), pm_cq_row (key 218 (by decide)), pm_cq_row (key 219 (by decide)), pm_cq_row (key 222 (by decide)), pm_cq_row (key 245 (by decide))]
    exact ⟨hJ.1, hJ.2.1, hJ.2.2.1, trivial⟩
/-- the rows' arrays, how long they are -/
def zRa : List (Nat × Nat) := [(32, 4), (34, 10), (36, 10), (38, 8), (40, 12), (30, 6), (44, 8), (75, 4), (77, 10), (79, 10), (81, 8), (83, 12), (73, 6), (87, 8)]
def zWv (σ : Nat → Nat) (μ0 μ : pm_Mem) : Prop := ∀ q ∈ zRa, ∀ i : Int, 0 ≤ i → i < q.2 → μ q.1 i = μ0 (σ q.1) i
def zSv2 (r : Nat) : Nat := if 30 ≤ r ∧ r ≤ 44 then r + 43 else r
def zSv45 (r : Nat) : Nat := if 73 ≤ r then r - 43 else r
theorem zWv_rcp {σ : Nat → Nat} {μ0 μ μ' : pm_Mem} {d s n : Nat} (h : zWv σ μ0 μ) (hs : (s, n) ∈ zRa) (hd : ∀ q ∈ zRa, q.1 = d → q.2 = n) (h1 : ∀ q ∈ zRa, q.1 ≠ d → ∀ i : Int, 0 ≤ i → i < q.2 → μ' q.1 i = μ q.1 i) (h2 : ∀ i : Int, 0 ≤ i → i < n → μ' d i = μ s i) : zWv (fun r => if r = d then σ s else σ r) μ0 μ' := fun q hq i i0 i1 => by
  show μ' q.1 i = μ0 (if q.1 = d then σ s else σ q.1) i
  by_cases hqd : q.1 = d
  · have e := hd q hq hqd
    rw [if_pos hqd, hqd, h2 i i0 (by omega)]
    exact h (s, n) hs i i0 (by show i < (n : Int); omega)
  · rw [if_neg hqd, h1 q hq hqd i i0 i1]
    exact h q hq i i0 i1
theorem zWv_fr {σ : Nat → Nat} {μ0 μ μ' : pm_Mem} (h : zWv σ μ0 μ) (hf : ∀ q ∈ zRa, ∀ i : Int, 0 ≤ i → i < q.2 → μ' q.1 i = μ q.1 i) : zWv σ μ0 μ' := fun q hq i i0 i1 => by rw [hf q hq i i0 i1]; exact h q hq i i0 i1
theorem zWv_eq {σ τ : Nat → Nat} {μ0 μ : pm_Mem} (h : zWv σ μ0 μ) (he : ∀ q ∈ zRa, σ q.1 = τ q.1) : zWv τ μ0 μ := fun q hq i i0 i1 => by rw [h q hq i i0 i1, he q hq]
noncomputable def zrA (r n : Nat) : Bool := match zRT2 r with
  | some g => Nat.blt r zNR && Nat.ble g.1 2 && Nat.ble n (sx_wd g) && (List.range n).all (fun k => match sx_ft g k with
    | some t => Nat.ble t.1 1
    | none => false)
  | none => false
/-- the reference's arrays -/
def zRb : List (Nat × Nat) := [(232, 4), (234, 10), (235, 10), (237, 8), (239, 12), (230, 6), (244, 8)]
set_option maxRecDepth 100000 in
theorem zRa_t : ∀ q ∈ zRa, zrA q.1 q.2 = true := by decide +kernel
set_option maxRecDepth 100000 in
theorem zRb_t : ∀ q ∈ zRb, zrA q.1 q.2 = true := by decide +kernel
set_option maxRecDepth 100000 in
theorem zRc_t : zrA 245 2600 = true := by decide +kernel
theorem zrA_fr {W : Nat} {μ μ' : pm_Mem} (h : ∀ (r : Nat) (g : sx_Rg) (k : Nat) (t : sx_Ty), sx_bit W r = false → r < zNR → zRT2 r = some g → g.1 ≤ 2 → k < sx_wd g → sx_ft g k = some t → t.1 ≤ 1 → μ' r (k : Int) = μ r (k : Int)) {r n : Nat} (hb : sx_bit W r = false) (hz : zrA r n = true) : ∀ i : Int, 0 ≤ i → i < n → μ' r i = μ r i := fun i i0 i1 => by
  unfold zrA at hz
  split at hz
  · rename_i g hg
    simp only [Bool.and_eq_true] at hz
    obtain ⟨⟨⟨a1, a2⟩, a3⟩, a4⟩ := hz
    have a1 := Nat.blt_eq.mp a1
    have a2 := Nat.le_of_ble_eq_true a2
    have a3 := Nat.le_of_ble_eq_true a3
    have a4 := List.all_eq_true.mp a4 i.toNat (List.mem_range.mpr (by omega))
    split at a4
    · rename_i t ht
      have := h r g i.toNat t hb a1 hg a2 (by omega) ht (Nat.le_of_ble_eq_true a4)
      rw [show ((i.toNat : Nat) : Int) = i by omega] at this
      exact this
    · cases a4
  · cases hz
noncomputable def zRak (W : Nat) (l : List (Nat × Nat)) : Bool := l.all (fun q => sx_nb (sx_bit W q.1))
theorem zRl_fr {W : Nat} {μ μ' : pm_Mem} {l : List (Nat × Nat)} (h : ∀ (r : Nat) (g : sx_Rg) (k : Nat) (t : sx_Ty), sx_bit W r = false → r < zNR → zRT2 r = some g → g.1 ≤ 2 → k < sx_wd g → sx_ft g k = some t → t.1 ≤ 1 → μ' r (k : Int) = μ r (k : Int)) (ht : ∀ q ∈ l, zrA q.1 q.2 = true) (hc : zRak W l = true) : ∀ q ∈ l, ∀ i : Int, 0 ≤ i → i < q.2 → μ' q.1 i = μ q.1 i := fun q hq => by
  have h1 := List.all_eq_true.mp hc q hq
  rw [sx_nb_eq, Bool.not_eq_true'] at h1
  exact zrA_fr h h1 (ht q hq)
theorem zRa_fr {W : Nat} {μ μ' : pm_Mem} (h : ∀ (r : Nat) (g : sx_Rg) (k : Nat) (t : sx_Ty), sx_bit W r = false → r < zNR → zRT2 r = some g → g.1 ≤ 2 → k < sx_wd g → sx_ft g k = some t → t.1 ≤ 1 → μ' r (k : Int) = μ r (k : Int)) (hc : zRak W zRa = true) : ∀ q ∈ zRa, ∀ i : Int, 0 ≤ i → i < q.2 → μ' q.1 i = μ q.1 i := zRl_fr h zRa_t hc
/-- the class's image: what comes of the arrays -/
def zIMY (b : Int) (μ μ' : pm_Mem) : Prop := (b ≠ 0 → zWv zSv45 μ μ') ∧ (b = 0 → μ 1 2 = 0 → zWv (fun r => r) μ μ') ∧ (b = 0 → μ 1 2 ≠ 0 → zWv zSv2 μ μ')
theorem zIMY_t {b : Int} {μ μ' : pm_Mem} (h : b ≠ 0) (hy : zWv zSv45 μ μ') : zIMY b μ μ' := ⟨fun _ => hy, fun h0 => absurd h0 h, fun h0 => absurd h0 h⟩
theorem zIMY_n {b : Int} {μ μ' : pm_Mem} (h : b = 0) (h1 : μ 1 2 = 0) (hy : zWv (fun r => r) μ μ') : zIMY b μ μ' := ⟨fun h0 => absurd h h0, fun _ _ => hy, fun _ h0 => absurd h1 h0⟩
theorem zIMY_b {b : Int} {μ μ' : pm_Mem} (h : b = 0) (h1 : μ 1 2 ≠ 0) (hy : zWv zSv2 μ μ') : zIMY b μ μ' := ⟨fun h0 => absurd h h0, fun _ h0 => absurd h0 h1, fun _ _ => hy⟩
/-! AFTER YOU -/
def zwt20 (a b c d : Int) : Int := if (-99 ≤ a ∧ a ≤ 99) ∧ (-99 ≤ b ∧ b ≤ 99) ∧ (-99 ≤ c ∧ c ≤ 99) ∧ (-99 ≤ d ∧ d ≤ 99) then 1 else 0
theorem zwt20_y {a b c d : Int} (h : (-99 ≤ a ∧ a ≤ 99) ∧ (-99 ≤ b ∧ b ≤ 99) ∧ (-99 ≤ c ∧ c ≤ 99) ∧ (-99 ≤ d ∧ d ≤ 99)) : zwt20 a b c d = 1 := if_pos h
theorem zwt20_n {a b c d : Int} (h : ¬ ((-99 ≤ a ∧ a ≤ 99) ∧ (-99 ≤ b ∧ b ≤ 99) ∧ (-99 ≤ c ∧ c ≤ 99) ∧ (-99 ≤ d ∧ d ≤ 99))) : zwt20 a b c d = 0 := if_neg h
def zTD (a b c d : Int) (f f' : Int → Int) : Prop := (zwt20 a b c d = 1 → f' 0 = a ∧ f' 1 = b ∧ f' 2 = c ∧ f' 3 = d) ∧ (zwt20 a b c d ≠ 1 → f' = f)
theorem zAd {x c c' k room v : Int} {f f' : Int → Int} {P : Prop} (hd : (x = -1 ∧ room ≤ c ∧ c' = c ∧ P) ∨ (x = c + 1 ∧ c < room ∧ c' = c + 1 ∧ ∀ i, f' i = if i = c then v else f i)) (hc : c = k) (hk : k < room) : c' = k + 1 ∧ ∀ i, f' i = if i = k then v else f i := by
  subst hc
  rcases hd with ⟨-, h, -, -⟩ | ⟨-, -, h1, h2⟩
  · omega
  · exact ⟨h1, h2⟩
