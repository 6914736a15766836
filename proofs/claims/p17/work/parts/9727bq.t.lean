/-! how far: the reference; walks printed by program (wip/p30/pmgen.py) and filled by hand -/
section ZHW
variable {φ : Option pm_Mem}
variable {D : va_G} {Wm : Nat} {ST : List (String × String × String × Nat)} {b0 : sx_B} {l : Launch} {Sg : Nat → Option Nat} {bud : sx_Bu} {μ : pm_Mem} {B0 : Nat → Prop} {J : (Nat → Option Nat) → Heap → Prop}
set_option maxRecDepth 100000 in
theorem zk_f1 (hK : zKK ST) {X : Nat → List pm_V → List pm_V → pm_Mem → Prop} {μ0 : pm_Mem} {W : Int → Int → Int} (hW0 : ∀ a b : Int, 0 ≤ a → a ≤ 11 → 0 ≤ b → b ≤ 11 → μ0 223 (12 * a + b) = W a b) (hWb : ∀ a b, 0 ≤ W a b ∧ W a b ≤ 99) (hb228 : sx_bit Wm 228 = true) {p : Int} (hp : 0 ≤ p ∧ p < 12) (KK : ∀ (μ : pm_Mem), (∀ r, r ≠ 228 → μ r = μ0 r) → (∀ x9 z9 : Int, (0 ≤ x9 ∧ x9 < 12) → (0 ≤ z9 ∧ z9 < 12) → (x9 < p ∨ (x9 = p ∧ z9 < (12 : Int))) → μ 228 (x9 * 12 + z9) = if x9 = z9 then 0 else if W x9 z9 = 0 then 100000000 else W x9 z9) → zTJ φ μ → zW D Wm ST b0 l Sg zM319 bud X 73 [(2, 205), (0, p), (9, 0), (9, 0)] [] μ) (hbd : 1 ≤ bud.1 ∧ 22 ≤ bud.2.1) : ∀ (n : Nat) {q : Int} {μ : pm_Mem}, (12 - q).toNat = n → ∀ (hq : 0 ≤ q ∧ q ≤ 12) (hs : ∀ r, r ≠ 228 → μ r = μ0 r) (hf : (∀ x9 z9 : Int, (0 ≤ x9 ∧ x9 < 12) → (0 ≤ z9 ∧ z9 < 12) → (x9 < p ∨ (x9 = p ∧ z9 < q)) → μ 228 (x9 * 12 + z9) = if x9 = z9 then 0 else if W x9 z9 = 0 then 100000000 else W x9 z9)) (hT : zTJ φ μ), zW D Wm ST b0 l Sg zM319 bud X 10 [(2, 205), (0, p), (0, q), (9, 0)] [] μ := by
  intro n
  induction n using Nat.strongRecOn with
  | ind n ih =>
    intro q μ hn hq hs hf hT
    have e223 : μ 223 = μ0 223 := hs 223 (by decide)
    refine pm_blk hK zmm319 [] 2 13 [(2, 205), (0, p), (0, q), (9, 0)] [(0, 12), (0, q)] μ [] rfl trivial ?_
    refine pm_icmp hK zmm319 .ge 60 73 rfl rfl (fun h0 => ?_) (fun h0 => ?_)
    · have h0 : (12 : Int) ≤ q := h0
      refine pm_hide [2] ?_
      obtain rfl : q = 12 := by omega
      exact KK _ hs hf hT
    · have h0 : q < (12 : Int) := h0
      have hwp : μ 223 ((12 * p) + q) = W p q := by rw [e223]; exact hW0 p q (by omega) (by omega) (by omega) (by omega)
      have hwb := hWb p q
      refine pm_blk hK zmm319 [] 9 28 [(2, 205), (0, p), (0, q), (9, 0)] [(0, q), (0, p), (0, (12 * p) + q), (2, 228)] μ [pm_in (12 * p), pm_in ((12 * p) + q)] rfl ⟨pm_in_mk (by omega) (by omega), pm_in_mk (by omega) (by omega), trivial⟩ ?_
      refine pm_icmp hK zmm319 .ne 7 35 rfl rfl (fun h1 => ?_) (fun h1 => ?_)
      · have h1 : p ≠ q := h1
        have f1 := zT_get hT zs223_0 (i := (12 * p) + q) (by omega) (by omega)
        refine pm_blk hK zmm319 [] 8 46 [(2, 205), (0, p), (0, q), (9, 0)] [(0, μ 223 ((12 * p) + q)), (0, (12 * p) + q), (2, 228)] μ [pm_in (12 * p), pm_in ((12 * p) + q), 0 ≤ (12 * p) + q ∧ (12 * p) + q < 288] rfl ⟨pm_in_mk (by omega) (by omega), pm_in_mk (by omega) (by omega), ⟨by omega, by omega⟩, trivial⟩ ?_
        refine pm_if hK zmm319 .ne 9 55 rfl rfl (fun h2 => ?_) (fun h2 => ?_)
        · have h2 : μ 223 ((12 * p) + q) ≠ (0 : Int) := h2
          refine pm_blk hK zmm319 [] 9 67 [(2, 205), (0, p), (0, q), (9, 0)] [] (pm_up μ 228 ((12 * p) + q) (μ 223 ((12 * p) + q))) [pm_in (12 * p), pm_in ((12 * p) + q), 0 ≤ (12 * p) + q ∧ (12 * p) + q < 288, sx_bit Wm 228 = true, 0 ≤ (12 * p) + q ∧ (12 * p) + q < 144] rfl ⟨pm_in_mk (by omega) (by omega), pm_in_mk (by omega) (by omega), ⟨by omega, by omega⟩, hb228, ⟨by omega, by omega⟩, trivial⟩ ?_
          obtain ⟨μ1, eμ1⟩ : ∃ μ', μ' = pm_up μ 228 ((12 * p) + q) (μ 223 ((12 * p) + q)) := ⟨_, rfl⟩
          rw [← eμ1]
          have hTμ1 : zTJ φ μ1 := by rw [eμ1]; exact zT_up hT zs228_0 rfl (i := (12 * p) + q) (by omega) (by omega) (by omega) (by omega)
          refine pm_blk hK zmm319 [] 2 10 [(2, 205), (0, p), (0, q + 1), (9, 0)] [] μ1 [pm_in (q + 1)] rfl ⟨pm_in_mk (by omega) (by omega), trivial⟩ ?_
          refine ih _ (by omega) rfl ⟨by omega, by omega⟩ (fun r hr => by rw [eμ1, pm_up_row hr]; exact hs r hr) (fun x z hx hz hh => ?_) hTμ1
          rw [eμ1, pm_up_at]
          by_cases hxz : x = p ∧ z = q
          · obtain ⟨rfl, rfl⟩ := hxz
            rw [if_pos (by omega)]
            first
            | rw [if_pos (by assumption)]
            | (rw [if_neg (by omega), if_pos (by omega)])
            | (rw [if_neg (by omega), if_neg (by omega)]; omega)
            | (exfalso; omega)
          · rw [if_neg (by omega)]
            exact hf x z hx hz (by omega)
        · have h2 : μ 223 ((12 * p) + q) = (0 : Int) := h2
          refine pm_blk hK zmm319 [] 3 67 [(2, 205), (0, p), (0, q), (9, 0)] [] (pm_up μ 228 ((12 * p) + q) 100000000) [sx_bit Wm 228 = true, 0 ≤ (12 * p) + q ∧ (12 * p) + q < 144] rfl ⟨hb228, ⟨by omega, by omega⟩, trivial⟩ ?_
          obtain ⟨μ2, eμ2⟩ : ∃ μ', μ' = pm_up μ 228 ((12 * p) + q) 100000000 := ⟨_, rfl⟩
          rw [← eμ2]
          have hTμ2 : zTJ φ μ2 := by rw [eμ2]; exact zT_up hT zs228_0 rfl (i := (12 * p) + q) (by omega) (by omega) (by omega) (by omega)
          refine pm_blk hK zmm319 [] 2 10 [(2, 205), (0, p), (0, q + 1), (9, 0)] [] μ2 [pm_in (q + 1)] rfl ⟨pm_in_mk (by omega) (by omega), trivial⟩ ?_
          refine ih _ (by omega) rfl ⟨by omega, by omega⟩ (fun r hr => by rw [eμ2, pm_up_row hr]; exact hs r hr) (fun x z hx hz hh => ?_) hTμ2
          rw [eμ2, pm_up_at]
          by_cases hxz : x = p ∧ z = q
          · obtain ⟨rfl, rfl⟩ := hxz
            rw [if_pos (by omega)]
            first
            | rw [if_pos (by assumption)]
            | (rw [if_neg (by omega), if_pos (by omega)])
            | (rw [if_neg (by omega), if_neg (by omega)]; omega)
            | (exfalso; omega)
          · rw [if_neg (by omega)]
            exact hf x z hx hz (by omega)
      · have h1 : p = q := h1
        refine pm_blk hK zmm319 [] 3 67 [(2, 205), (0, p), (0, q), (9, 0)] [] (pm_up μ 228 ((12 * p) + q) 0) [sx_bit Wm 228 = true, 0 ≤ (12 * p) + q ∧ (12 * p) + q < 144] rfl ⟨hb228, ⟨by omega, by omega⟩, trivial⟩ ?_
        obtain ⟨μ3, eμ3⟩ : ∃ μ', μ' = pm_up μ 228 ((12 * p) + q) 0 := ⟨_, rfl⟩
        rw [← eμ3]
        have hTμ3 : zTJ φ μ3 := by rw [eμ3]; exact zT_up hT zs228_0 rfl (i := (12 * p) + q) (by omega) (by omega) (by omega) (by omega)
        refine pm_blk hK zmm319 [] 2 10 [(2, 205), (0, p), (0, q + 1), (9, 0)] [] μ3 [pm_in (q + 1)] rfl ⟨pm_in_mk (by omega) (by omega), trivial⟩ ?_
        refine ih _ (by omega) rfl ⟨by omega, by omega⟩ (fun r hr => by rw [eμ3, pm_up_row hr]; exact hs r hr) (fun x z hx hz hh => ?_) hTμ3
        rw [eμ3, pm_up_at]
        by_cases hxz : x = p ∧ z = q
        · obtain ⟨rfl, rfl⟩ := hxz
          rw [if_pos (by omega)]
          first
          | rw [if_pos (by assumption)]
          | (rw [if_neg (by omega), if_pos (by omega)])
          | (rw [if_neg (by omega), if_neg (by omega)]; omega)
          | (exfalso; omega)
        · rw [if_neg (by omega)]
          exact hf x z hx hz (by omega)
set_option maxRecDepth 100000 in
theorem zk_f2 (hK : zKK ST) {X : Nat → List pm_V → List pm_V → pm_Mem → Prop} {μ0 : pm_Mem} {W : Int → Int → Int} (hW0 : ∀ a b : Int, 0 ≤ a → a ≤ 11 → 0 ≤ b → b ≤ 11 → μ0 223 (12 * a + b) = W a b) (hWb : ∀ a b, 0 ≤ W a b ∧ W a b ≤ 99) (hb228 : sx_bit Wm 228 = true) (KK : ∀ (μ : pm_Mem), (∀ r, r ≠ 228 → μ r = μ0 r) → (∀ x9 z9 : Int, (0 ≤ x9 ∧ x9 < 12) → (0 ≤ z9 ∧ z9 < 12) → (x9 < (12 : Int) ∨ (x9 = (12 : Int) ∧ z9 < (0 : Int))) → μ 228 (x9 * 12 + z9) = if x9 = z9 then 0 else if W x9 z9 = 0 then 100000000 else W x9 z9) → zTJ φ μ → zW D Wm ST b0 l Sg zM319 bud X 79 [(2, 205), (9, 0), (9, 0), (9, 0)] [] μ) (hbd : 1 ≤ bud.1 ∧ 22 ≤ bud.2.1) : ∀ (n : Nat) {p : Int} {μ : pm_Mem}, (12 - p).toNat = n → ∀ (hp : 0 ≤ p ∧ p ≤ 12) (hs : ∀ r, r ≠ 228 → μ r = μ0 r) (hf : (∀ x9 z9 : Int, (0 ≤ x9 ∧ x9 < 12) → (0 ≤ z9 ∧ z9 < 12) → (x9 < p ∨ (x9 = p ∧ z9 < (0 : Int))) → μ 228 (x9 * 12 + z9) = if x9 = z9 then 0 else if W x9 z9 = 0 then 100000000 else W x9 z9)) (hT : zTJ φ μ), zW D Wm ST b0 l Sg zM319 bud X 2 [(2, 205), (0, p), (9, 0), (9, 0)] [] μ := by
  intro n
  induction n using Nat.strongRecOn with
  | ind n ih =>
    intro p μ hn hp hs hf hT
    refine pm_blk hK zmm319 [] 2 5 [(2, 205), (0, p), (9, 0), (9, 0)] [(0, 12), (0, p)] μ [] rfl trivial ?_
    refine pm_icmp hK zmm319 .ge 74 79 rfl rfl (fun h0 => ?_) (fun h0 => ?_)
    · have h0 : (12 : Int) ≤ p := h0
      refine pm_hide [1] ?_
      obtain rfl : p = 12 := by omega
      exact KK _ hs hf hT
    · have h0 : p < (12 : Int) := h0
      refine pm_blk hK zmm319 [] 2 10 [(2, 205), (0, p), (0, 0), (9, 0)] [] μ [] rfl trivial ?_
      refine zk_f1 hK (μ0 := μ0) hW0 hWb hb228 (p := p) ⟨by omega, by omega⟩ (fun μ hs hf hT => ?_) hbd _ rfl ⟨by omega, by omega⟩ hs hf hT
      refine pm_blk hK zmm319 [] 2 2 [(2, 205), (0, p + 1), (9, 0), (9, 0)] [] μ [pm_in (p + 1)] rfl ⟨pm_in_mk (by omega) (by omega), trivial⟩ ?_
      exact ih _ (by omega) rfl ⟨by omega, by omega⟩ hs (fun x z hx hz hh => hf x z hx hz (by omega)) hT
set_option maxRecDepth 100000 in
theorem zk_f3 (hK : zKK ST) {X : Nat → List pm_V → List pm_V → pm_Mem → Prop} {μ0 : pm_Mem} {W : Int → Int → Int} (hb228 : sx_bit Wm 228 = true) {o p : Int} {g : Int → Int} (ho : 0 ≤ o ∧ o < 12) (hp : 0 ≤ p ∧ p < 12) (KK : ∀ (μ : pm_Mem), (∀ r, r ≠ 228 → μ r = μ0 r) → zFv 100000000 W 12 o g p 12 (μ 228) → zTJ φ μ → zW D Wm ST b0 l Sg zM319 bud X 158 [(2, 205), (0, o), (0, p), (9, 0)] [] μ) (hbd : 1 ≤ bud.1 ∧ 22 ≤ bud.2.1) : ∀ (n : Nat) {q : Int} {μ : pm_Mem}, (12 - q).toNat = n → ∀ (hq : 0 ≤ q ∧ q ≤ 12) (hs : ∀ r, r ≠ 228 → μ r = μ0 r) (hf : zFv 100000000 W 12 o g p q (μ 228)) (hT : zTJ φ μ), zW D Wm ST b0 l Sg zM319 bud X 97 [(2, 205), (0, o), (0, p), (0, q)] [] μ := by
  intro n
  induction n using Nat.strongRecOn with
  | ind n ih =>
    intro q μ hn hq hs hf hT
    refine pm_blk hK zmm319 [] 2 100 [(2, 205), (0, o), (0, p), (0, q)] [(0, 12), (0, q)] μ [] rfl trivial ?_
    refine pm_icmp hK zmm319 .ge 58 158 rfl rfl (fun h0 => ?_) (fun h0 => ?_)
    · have h0 : (12 : Int) ≤ q := h0
      refine pm_hide [3] ?_
      obtain rfl : q = 12 := by omega
      exact KK _ hs hf hT
    · have h0 : q < (12 : Int) := h0
      have p1 := (hf.2 p o hp ho).1
      have p2 := (hf.2 o q ho ⟨by omega, by omega⟩).1
      have p3 := (hf.2 p q hp ⟨by omega, by omega⟩).1
      have p4 := (hf.1 p o hp ho).1
      have p5 := (hf.1 o q ho ⟨by omega, by omega⟩).1
      have p6 := (hf.1 p q hp ⟨by omega, by omega⟩).1
      have c1 : (12 * p) + o = p * 12 + o := by omega
      have c2 : (12 * o) + q = o * 12 + q := by omega
      have c3 : (12 * p) + q = p * 12 + q := by omega
      have f1 := zT_get hT zs228_0 (i := (12 * p) + q) (by omega) (by omega)
      have f2 := zT_get hT zs228_0 (i := (12 * p) + o) (by omega) (by omega)
      have f3 := zT_get hT zs228_0 (i := (12 * o) + q) (by omega) (by omega)
      refine pm_blk hK zmm319 [] 33 148 [(2, 205), (0, o), (0, p), (0, q)] [(0, (μ 228 ((12 * p) + o)) + (μ 228 ((12 * o) + q))), (0, μ 228 ((12 * p) + q)), (2, 205), (0, (12 * p) + q), (2, 228)] μ [pm_in (12 * p), pm_in ((12 * p) + q), pm_in (12 * p), pm_in ((12 * p) + q), 0 ≤ (12 * p) + q ∧ (12 * p) + q < 144, pm_in (12 * p), pm_in ((12 * p) + o), 0 ≤ (12 * p) + o ∧ (12 * p) + o < 144, pm_in (12 * o), pm_in ((12 * o) + q), 0 ≤ (12 * o) + q ∧ (12 * o) + q < 144, pm_in ((μ 228 ((12 * p) + o)) + (μ 228 ((12 * o) + q)))] rfl ⟨pm_in_mk (by omega) (by omega), pm_in_mk (by omega) (by omega), pm_in_mk (by omega) (by omega), pm_in_mk (by omega) (by omega), ⟨by omega, by omega⟩, pm_in_mk (by omega) (by omega), pm_in_mk (by omega) (by omega), ⟨by omega, by omega⟩, pm_in_mk (by omega) (by omega), pm_in_mk (by omega) (by omega), ⟨by omega, by omega⟩, pm_in_mk (by omega) (by omega), trivial⟩ ?_
      refine pm_call hK zmm319 (377, 0, 157, 2) zM157 (0, 0) [(2, 205), (0, μ 228 ((12 * p) + q)), (0, (μ 228 ((12 * p) + o)) + (μ 228 ((12 * o) + q)))] [(0, (12 * p) + q), (2, 228)] rfl rfl rfl rfl ⟨by omega, by rw [zn157]; omega⟩ (zk_less hK ⟨Nat.le_refl _, Nat.le_refl _⟩) (fun st1 μc1 hp1 => ?_)
      obtain ⟨rfl, rfl⟩ := hp1
      refine pm_blk hK zmm319 [] 1 152 [(2, 205), (0, o), (0, p), (0, q)] [] (pm_up μ 228 ((12 * p) + q) (min (μ 228 ((12 * p) + q)) ((μ 228 ((12 * p) + o)) + (μ 228 ((12 * o) + q))))) [sx_bit Wm 228 = true, 0 ≤ (12 * p) + q ∧ (12 * p) + q < 144] rfl ⟨hb228, ⟨by omega, by omega⟩, trivial⟩ ?_
      obtain ⟨μ1, eμ1⟩ : ∃ μ', μ' = pm_up μ 228 ((12 * p) + q) (min (μ 228 ((12 * p) + q)) ((μ 228 ((12 * p) + o)) + (μ 228 ((12 * o) + q)))) := ⟨_, rfl⟩
      rw [← eμ1]
      have hTμ1 : zTJ φ μ1 := by rw [eμ1]; exact zT_up hT zs228_0 rfl (i := (12 * p) + q) (by omega) (by omega) (by omega) (by omega)
      refine pm_blk hK zmm319 [] 2 97 [(2, 205), (0, o), (0, p), (0, q + 1)] [] μ1 [pm_in (q + 1)] rfl ⟨pm_in_mk (by omega) (by omega), trivial⟩ ?_
      exact ih _ (by omega) rfl ⟨by omega, by omega⟩ (fun r hr => by rw [eμ1, pm_up_row hr]; exact hs r hr) (zFv_step ho (by decide) hp ⟨by omega, by omega⟩ hf rfl (fun z => by rw [eμ1, pm_up_at, c1, c2, c3])) hTμ1
set_option maxRecDepth 100000 in
theorem zk_f4 (hK : zKK ST) {X : Nat → List pm_V → List pm_V → pm_Mem → Prop} {μ0 : pm_Mem} {W : Int → Int → Int} (hb228 : sx_bit Wm 228 = true) {o : Int} {g : Int → Int} (ho : 0 ≤ o ∧ o < 12) (KK : ∀ (μ : pm_Mem), (∀ r, r ≠ 228 → μ r = μ0 r) → zFv 100000000 W 12 o g 12 0 (μ 228) → zTJ φ μ → zW D Wm ST b0 l Sg zM319 bud X 164 [(2, 205), (0, o), (9, 0), (9, 0)] [] μ) (hbd : 1 ≤ bud.1 ∧ 22 ≤ bud.2.1) : ∀ (n : Nat) {p : Int} {μ : pm_Mem}, (12 - p).toNat = n → ∀ (hp : 0 ≤ p ∧ p ≤ 12) (hs : ∀ r, r ≠ 228 → μ r = μ0 r) (hf : zFv 100000000 W 12 o g p 0 (μ 228)) (hT : zTJ φ μ), zW D Wm ST b0 l Sg zM319 bud X 89 [(2, 205), (0, o), (0, p), (9, 0)] [] μ := by
  intro n
  induction n using Nat.strongRecOn with
  | ind n ih =>
    intro p μ hn hp hs hf hT
    refine pm_blk hK zmm319 [] 2 92 [(2, 205), (0, o), (0, p), (9, 0)] [(0, 12), (0, p)] μ [] rfl trivial ?_
    refine pm_icmp hK zmm319 .ge 72 164 rfl rfl (fun h0 => ?_) (fun h0 => ?_)
    · have h0 : (12 : Int) ≤ p := h0
      refine pm_hide [2] ?_
      obtain rfl : p = 12 := by omega
      exact KK _ hs hf hT
    · have h0 : p < (12 : Int) := h0
      refine pm_blk hK zmm319 [] 2 97 [(2, 205), (0, o), (0, p), (0, 0)] [] μ [] rfl trivial ?_
      refine zk_f3 hK (μ0 := μ0) hb228 (o := o) (p := p) (g := g) ho ⟨by omega, by omega⟩ (fun μ hs hf hT => ?_) hbd _ rfl ⟨by omega, by omega⟩ hs hf hT
      refine pm_blk hK zmm319 [] 2 89 [(2, 205), (0, o), (0, p + 1), (9, 0)] [] μ [pm_in (p + 1)] rfl ⟨pm_in_mk (by omega) (by omega), trivial⟩ ?_
      exact ih _ (by omega) rfl ⟨by omega, by omega⟩ hs (zFv_row hf) hT
set_option maxRecDepth 100000 in
theorem zk_f5 (hK : zKK ST)  {μ0 : pm_Mem} {W : Int → Int → Int} (hb228 : sx_bit Wm 228 = true) (hbd : 1 ≤ bud.1 ∧ 22 ≤ bud.2.1) : ∀ (n : Nat) {o : Int} {μ : pm_Mem}, (12 - o).toNat = n → ∀ (ho : 0 ≤ o ∧ o ≤ 12) (hs : ∀ r, r ≠ 228 → μ r = μ0 r) (hf : zFwl 100000000 W 12 o (μ 228)) (hT : zTJ φ μ), zW D Wm ST b0 l Sg zM319 bud (pm_X zM319 (fun st' μ' => st' = [] ∧ zTJ φ μ' ∧ (∀ r, r ≠ 228 → μ' r = μ0 r) ∧ zFwl 100000000 W 12 12 (μ' 228))) 81 [(2, 205), (0, o), (9, 0), (9, 0)] [] μ := by
  intro n
  induction n using Nat.strongRecOn with
  | ind n ih =>
    intro o μ hn ho hs hf hT
    refine pm_blk hK zmm319 [] 2 84 [(2, 205), (0, o), (9, 0), (9, 0)] [(0, 12), (0, o)] μ [] rfl trivial ?_
    refine pm_icmp hK zmm319 .ge 86 170 rfl rfl (fun h0 => ?_) (fun h0 => ?_)
    · have h0 : (12 : Int) ≤ o := h0
      obtain rfl : o = 12 := by omega
      exact pm_vret rfl rfl ⟨rfl, hT, hs, hf⟩
    · have h0 : o < (12 : Int) := h0
      refine pm_blk hK zmm319 [] 2 89 [(2, 205), (0, o), (0, 0), (9, 0)] [] μ [] rfl trivial ?_
      refine zk_f4 hK (μ0 := μ0) hb228 (o := o) (g := μ 228) ⟨by omega, by omega⟩ (fun μ hs hf hT => ?_) hbd _ rfl ⟨by omega, by omega⟩ hs (zFv_0 hf) hT
      refine pm_blk hK zmm319 [] 2 81 [(2, 205), (0, o + 1), (9, 0), (9, 0)] [] μ [pm_in (o + 1)] rfl ⟨pm_in_mk (by omega) (by omega), trivial⟩ ?_
      exact ih _ (by omega) rfl ⟨by omega, by omega⟩ hs (zFv_end ⟨by omega, by omega⟩ hf) hT
set_option maxRecDepth 100000 in
theorem zk_findsFar (hK : zKK ST) {W : Int → Int → Int} (hT : zTJ φ μ) (hW0 : ∀ a b : Int, 0 ≤ a → a ≤ 11 → 0 ≤ b → b ≤ 11 → μ 223 (12 * a + b) = W a b) (hWb : ∀ a b, 0 ≤ W a b ∧ W a b ≤ 99) (hb228 : sx_bit Wm 228 = true)  (hbd : 1 ≤ bud.1 ∧ 22 ≤ bud.2.1) : zC D Wm ST b0 l Sg zM319 bud [(2, 205)] μ (fun st' μ' => st' = [] ∧ zTJ φ μ' ∧ (∀ r, r ≠ 228 → μ' r = μ r) ∧ zFwl 100000000 W 12 12 (μ' 228)) := by
  refine pm_blk hK zmm319 [] 2 2 [(2, 205), (0, 0), (9, 0), (9, 0)] [] μ [] rfl trivial ?_
  refine zk_f2 hK (μ0 := μ) hW0 hWb hb228 (fun μ2 hs hf hT => ?_) hbd _ rfl ⟨by omega, by omega⟩ (fun _ _ => rfl) (fun x z hx hz hh => absurd hh (by omega)) hT
  refine pm_blk hK zmm319 [] 2 81 [(2, 205), (0, 0), (9, 0), (9, 0)] [] μ2 [] rfl trivial ?_
  exact zk_f5 hK (μ0 := μ) hb228 hbd _ rfl ⟨by omega, by omega⟩ hs (zFw_0 (by decide) hWb (fun x z hx hz => hf x z hx hz (by omega))) hT
end ZHW
