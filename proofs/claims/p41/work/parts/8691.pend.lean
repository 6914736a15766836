/-! what waits while a condition is read -/
variable {φ : Option pm_Mem}
def zPb (p : Int → Int) : Nat → Int
  | 0 => 0
  | n + 1 => zPb p n + (if p n = 10 ∨ p n = 11 then 1 else 0)
def zPo (p : Int → Int) : Nat → Int
  | 0 => 0
  | n + 1 => zPo p n + (if p n = 9 ∨ p n = 12 then 1 else 0)
def zPq (p : Int → Int) : Nat → Int
  | 0 => 0
  | n + 1 => zPq p n + (if p n = 12 then 1 else 0)
def zPk (p : Int → Int) : Nat → Prop
  | 0 => True
  | n + 1 => zPk p n ∧ (p n = 12 ∨ p n = 9 ∨ (p n = 11 ∧ (n = 0 ∨ p ((n : Int) - 1) = 12)) ∨ (p n = 10 ∧ (n = 0 ∨ p ((n : Int) - 1) = 12 ∨ p ((n : Int) - 1) = 11)))
/-- what settling leaves as it was -/
def zFp (μ μ' : pm_Mem) : Prop := (∀ r, r ≠ 205 → r ≠ 218 → r ≠ 219 → μ' r = μ r) ∧ (∀ k, k ≠ 25 → k ≠ 26 → k ≠ 28 → μ' 205 k = μ 205 k)
def zFw (μ μ' : pm_Mem) : Prop := (∀ r, r ≠ 205 → r ≠ 218 → r ≠ 219 → r ≠ 220 → μ' r = μ r) ∧ (∀ k, k ≠ 12 → k ≠ 13 → k ≠ 14 → k ≠ 15 → k ≠ 25 → k ≠ 26 → k ≠ 28 → μ' 205 k = μ 205 k)
def zSt (μ μ' : pm_Mem) (o : Int) (n n' : Nat) : Prop := n' ≤ n ∧ μ' 205 28 = (n' : Int) ∧ μ' 205 25 = μ 205 25 + ((n : Int) - n') ∧ μ' 205 26 = zPo (μ 220) n' ∧ zEm μ μ' (zPb (μ 220) n + 1) (zPb (μ 220) n' + 1) ∧ zFp μ μ' ∧ zPk (μ 220) n' ∧ zPq (μ 220) n' = zPq (μ 220) n ∧ (n' = n ∨ (μ 220 n' = o ∧ zPk (μ 220) (n' + 1)))
/-- a condition as far as it is read: q brackets stand open, t is 1 where a value is looked for -/
def zAn (φ : Option pm_Mem) (μ0 μ : pm_Mem) (w q t : Int) (m : Nat) : Prop := zTJ φ μ ∧ zRd μ ∧ μ 205 28 = (m : Int) ∧ μ 205 26 = zPo (μ 220) m ∧ zPk (μ 220) m ∧ q = zPq (μ 220) m ∧ μ 205 25 + m + w ≤ μ 205 13 ∧ zEm μ0 μ 0 (zPb (μ 220) m + 1 - t) ∧ zFw μ0 μ
/-- a condition was read well -/
def zOA (μ μ' : pm_Mem) (w : Int) : Prop := zRd μ' ∧ μ 205 13 ≤ μ' 205 13 ∧ μ' 205 25 + w ≤ μ' 205 13 ∧ (∃ b, zEm μ μ' 0 b) ∧ zFw μ μ'
def zNt (p : Int → Int) (k : Nat) (o : Int) : Prop := k = 0 ∨ p ((k : Int) - 1) ≠ o
def zIt2 (p : Int → Int) (k : Nat) : Prop := k = 0 ∨ p ((k : Int) - 1) = 12 ∨ p ((k : Int) - 1) = 11
def zIt1 (p : Int → Int) (k : Nat) : Prop := k = 0 ∨ p ((k : Int) - 1) = 12
/-- the lines read so far -/
def zLn (μ : pm_Mem) (n : Int) : Prop := ∀ l : Int, 0 ≤ l → l < n → 0 ≤ μ 215 (32 + l) ∧ μ 215 (32 + l) ≤ μ 216 (32 + l) ∧ μ 216 (32 + l) ≤ μ 217 (32 + l) ∧ μ 217 (32 + l) ≤ μ 205 25 ∧ zSafe (μ 218) (μ 219) (μ 216 (32 + l) - μ 215 (32 + l)).toNat (800 + μ 215 (32 + l)) 0 ∧ zSafe (μ 218) (μ 219) (μ 217 (32 + l) - μ 216 (32 + l)).toNat (800 + μ 216 (32 + l)) 0
theorem zT_line {μ : pm_Mem} (hT : zTJ φ μ) {r : Nat} (hr : r = 215 ∨ r = 216 ∨ r = 217) {i x : Int} (h0 : 16 ≤ i ∧ i < 48) (hx : 0 ≤ x ∧ x ≤ 400) : zTJ φ (pm_up μ r i x) := by
  obtain ⟨a, b, c, d⟩ := hT.2
  have nr : ∀ s : Nat, s ≠ 215 → s ≠ 216 → s ≠ 217 → pm_up μ r i x s = μ s := fun s h1 h2 h3 => pm_up_row (by omega)
  have nl : ∀ (s : Nat) (l : Int), l < 16 → μ s l = pm_up μ r i x s l := fun s l hl => (if_neg (fun q => by omega)).symm
  refine ⟨?_, zLaw_congr ?_ (fun l _ l1 => nl 215 l l1) (fun l _ l1 => nl 216 l l1) (fun l _ l1 => nl 217 l l1) (fun i _ _ => by rw [nr 218 (by decide) (by decide) (by decide)]) (fun i _ _ => by rw [nr 219 (by decide) (by decide) (by decide)]) a, ?_, ?_, zF_of d (fun q hq => congrFun (nr q.1 (zFz_ne (by decide) hq) (zFz_ne (by decide) hq) (zFz_ne (by decide) hq)) _)⟩
  · rcases hr with rfl | rfl | rfl
    · exact zTy_upT hT.1 zs215_0 (by omega) (by omega) hx.1 hx.2
    · exact zTy_upT hT.1 zs216_0 (by omega) (by omega) hx.1 hx.2
    · exact zTy_upT hT.1 zs217_0 (by omega) (by omega) hx.1 hx.2
  · rw [nr 213 (by decide) (by decide) (by decide)]
  · rw [nr 222 (by decide) (by decide) (by decide)]; exact b
  · rw [nr 245 (by decide) (by decide) (by decide)]; exact c
