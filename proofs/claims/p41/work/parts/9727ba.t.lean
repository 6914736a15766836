/-! the tape's content -/
def zby (v z : Int) : Int := pm_and (pm_shr v z) 255
theorem zsh_key (b : BitVec 32) (k : Nat) (hk : k ≤ 24) : (b >>> k) &&& 255#32 = (b.sshiftRight k) &&& 255#32 := by
  apply BitVec.eq_of_getLsbD_eq
  intro i hi
  rw [BitVec.getLsbD_and, BitVec.getLsbD_and]
  by_cases h8 : i < 8
  · rw [BitVec.getLsbD_ushiftRight, BitVec.getLsbD_sshiftRight, if_pos (show k + i < 32 by omega), decide_eq_false (show ¬ 32 ≤ i by omega), Bool.not_false, Bool.true_and]
  · have h0 : (255#32).getLsbD i = false := Nat.testBit_lt_two_pow (Nat.lt_of_lt_of_le (show 255 < 2 ^ 8 by decide) (Nat.pow_le_pow_right (by decide) (by omega)))
    rw [h0, Bool.and_false, Bool.and_false]
theorem zand_of {x y : Int32} (h : x.toBitVec &&& 255#32 = y.toBitVec &&& 255#32) : pm_and x.toInt 255 = pm_and y.toInt 255 := by
  unfold pm_and
  rw [Int32.ofInt_toInt, Int32.ofInt_toInt]
  refine congrArg Int32.toInt (Int32.toBitVec_inj.mp ?_)
  rw [Int32.toBitVec_and, Int32.toBitVec_and]
  exact h
/-- k bytes of v from place n on -/
def zbP (T : Int → Int) (n v k : Int) : Int → Int := fun x => if n ≤ x ∧ x < n + k then zby v (24 - 8 * (x - n)) else T x
theorem zbP_0 {T : Int → Int} {n v : Int} : zbP T n v 0 = T := funext fun x => if_neg (by omega)
theorem zbP_s {T : Int → Int} {n v k a y : Int} (hk : 0 ≤ k) (ha : a = n + k) (hy : y = zby v (24 - 8 * k)) : zpu (zbP T n v k) a y = zbP T n v (k + 1) := by
  subst ha
  subst hy
  funext x
  unfold zpu zbP
  by_cases h : x = n + k
  · rw [if_pos h, if_pos (by omega), h, show n + k - n = k by omega]
  · rw [if_neg h]
    by_cases h2 : n ≤ x ∧ x < n + k
    · rw [if_pos h2, if_pos (by omega)]
    · rw [if_neg h2, if_neg (by omega)]
theorem zbP_cg {T T' : Int → Int} {n v : Int} (h : ∀ x, 0 ≤ x → x < n → T x = T' x) : ∀ x, 0 ≤ x → x < n + 4 → zbP T n v 4 x = zbP T' n v 4 x := fun x x0 x1 => by
  unfold zbP
  by_cases h2 : n ≤ x ∧ x < n + 4
  · rw [if_pos h2, if_pos h2]
  · rw [if_neg h2, if_neg h2]
    exact h x x0 (by omega)
def zfd (T : Int → Int) (n a b c d e : Int) : Int → Int := zbP (zbP (zbP (zbP (zbP T n a 4) (n + 4) b 4) (n + 8) c 4) (n + 12) d 4) (n + 16) e 4
theorem zfd_cg {T T' : Int → Int} {n a b c d e : Int} (h : ∀ x, 0 ≤ x → x < n → T x = T' x) : ∀ x, 0 ≤ x → x < n + 20 → zfd T n a b c d e x = zfd T' n a b c d e x := by
  have h1 := zbP_cg (v := a) h
  have h2 := zbP_cg (v := b) h1
  have h3 := zbP_cg (v := c) (n := n + 8) (fun x x0 x1 => h2 x x0 (by omega))
  have h4 := zbP_cg (v := d) (n := n + 12) (fun x x0 x1 => h3 x x0 (by omega))
  have h5 := zbP_cg (v := e) (n := n + 16) (fun x x0 x1 => h4 x x0 (by omega))
  exact fun x x0 x1 => h5 x x0 (by omega)
/-- both tapes alike -/
def zTp (μ μ' : pm_Mem) : Prop := μ 88 1 = μ' 205 11 ∧ ∀ x, 0 ≤ x → x < μ 88 1 → μ 89 x = μ' 211 x
