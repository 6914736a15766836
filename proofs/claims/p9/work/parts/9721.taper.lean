/-! the tape: rules for null, references tested, tables of jumps; what is reckoned -/
def zFd (L : Int) : Int := if L ≤ 380 then L + 20 else -1
def zFe (L : Int) : Int := if L ≤ 380 then L + 20 else L
def zEd (n L : Int) : Int := if 0 ≤ n ∧ n ≤ L then 1 else 0
def zEe (n L : Int) : Int := if 0 ≤ n ∧ n ≤ L then n else L
theorem zFd_y {L : Int} (h : L ≤ 380) : zFd L = L + 20 ∧ zFe L = L + 20 := ⟨if_pos h, if_pos h⟩
theorem zFd_n {L : Int} (h : ¬ L ≤ 380) : zFd L = -1 ∧ zFe L = L := ⟨if_neg h, if_neg h⟩
theorem zEd_y {n L : Int} (h : 0 ≤ n ∧ n ≤ L) : zEd n L = 1 ∧ zEe n L = n := ⟨if_pos h, if_pos h⟩
theorem zEd_n {n L : Int} (h : ¬ (0 ≤ n ∧ n ≤ L)) : zEd n L = 0 ∧ zEe n L = L := ⟨if_neg h, if_neg h⟩
theorem zand255 (x : Int) : 0 ≤ pm_and x 255 ∧ pm_and x 255 ≤ 255 := by
  unfold pm_and
  have e : (Int32.ofInt x &&& Int32.ofInt 255).toBitVec = (Int32.ofInt x).toBitVec &&& 255#32 := by
    rw [Int32.toBitVec_and]
    rfl
  have h : ((Int32.ofInt x).toBitVec &&& 255#32).toNat ≤ 255 := by
    rw [BitVec.toNat_and]
    exact Nat.and_le_right
  have e2 : (Int32.ofInt x &&& Int32.ofInt 255).toInt = (((Int32.ofInt x).toBitVec &&& 255#32).toNat : Int) := by
    show (Int32.ofInt x &&& Int32.ofInt 255).toBitVec.toInt = _
    rw [e, BitVec.toInt_eq_toNat_cond, if_pos (by omega)]
  omega
section ZTR
variable {D : va_G} {Wm : Nat} {ST : List (String × String × String × Nat)} {b0 : sx_B} {l : Launch} {Sg : Nat → Option Nat} {M : sx_Me} {bud : sx_Bu} {X : Nat → List pm_V → List pm_V → pm_Mem → Prop} {pc : Nat} {lv st : List pm_V} {μ : pm_Mem} {d : sx_Da}
theorem zp_tin (hK : zKK ST) (hm : pm_m zMT zCDs M d) {dflt lo hi off : Int} {offs : Array Int} {len tgt : Nat} {x : Int} (hrow : sx_row M.2.1 pc = some (pc, .tableswitch dflt lo hi offs, len)) (h1 : ¬ x < lo) (h2 : ¬ hi < x) (ho : offs[(x - lo).toNat]? = some off) (ht : (pc : Int) + off = (tgt : Int)) (kk : zW D Wm ST b0 l Sg M bud X tgt lv st μ) : zW D Wm ST b0 l Sg M bud X pc lv ((0, x) :: st) μ := by
  intro p e R s m args below meth c Q H locs ls stk hF hP K
  obtain ⟨hx, hb, -, -, -⟩ := id hF.1
  obtain ⟨hH, hM, hV, hL, hS⟩ := hP
  obtain ⟨v, t, rfl, k1, k2⟩ := pm_S_cons hS
  obtain ⟨y, rfl, hy⟩ := pm_v_int k1 rfl
  have hy : y.toInt = x := hy
  refine lv_tableIn hx hb (pm_row hK hm hrow) (by rw [hy]; exact h1) (by rw [hy]; exact h2) (off := off) (tgt := tgt) (by rw [hy]; exact ho) ht ?_
  exact kk p e R s m args below meth c Q H locs ls _ hF ⟨hH, hM, hV, hL, k2⟩ K
theorem zp_tout (hK : zKK ST) (hm : pm_m zMT zCDs M d) {dflt lo hi : Int} {offs : Array Int} {len tgt : Nat} {x : Int} (hrow : sx_row M.2.1 pc = some (pc, .tableswitch dflt lo hi offs, len)) (h : x < lo ∨ hi < x) (ht : (pc : Int) + dflt = (tgt : Int)) (kk : zW D Wm ST b0 l Sg M bud X tgt lv st μ) : zW D Wm ST b0 l Sg M bud X pc lv ((0, x) :: st) μ := by
  intro p e R s m args below meth c Q H locs ls stk hF hP K
  obtain ⟨hx, hb, -, -, -⟩ := id hF.1
  obtain ⟨hH, hM, hV, hL, hS⟩ := hP
  obtain ⟨v, t, rfl, k1, k2⟩ := pm_S_cons hS
  obtain ⟨y, rfl, hy⟩ := pm_v_int k1 rfl
  have hy : y.toInt = x := hy
  refine lv_tableOut hx hb (pm_row hK hm hrow) (by rw [hy]; exact h) (tgt := tgt) ht ?_
  exact kk p e R s m args below meth c Q H locs ls _ hF ⟨hH, hM, hV, hL, k2⟩ K
theorem zp_null (hK : zKK ST) (hm : pm_m zMT zCDs M d) (hrow : sx_row M.2.1 pc = some (pc, .aconst_null, 1)) (kk : zW D Wm ST b0 l Sg M bud X (pc + 1) lv ((3, 0) :: st) μ) : zW D Wm ST b0 l Sg M bud X pc lv st μ := by
  intro p e R s m args below meth c Q H locs ls stk hF hP K
  obtain ⟨hx, hb, -, -, -⟩ := id hF.1
  obtain ⟨hH, hM, hV, hL, hS⟩ := hP
  refine lv_null hx hb (pm_row hK hm hrow) ?_
  exact kk p e R s m args below meth c Q H locs ls _ hF ⟨hH, hM, hV, hL, ⟨Or.inr (Or.inr (Or.inr (Or.inl ⟨rfl, rfl⟩))), hS⟩⟩ K
theorem zp_ifnn (hK : zKK ST) (hm : pm_m zMT zCDs M d) {off : Int} {tgt : Nat} {r : Int} (hrow : sx_row M.2.1 pc = some (pc, .ifnonnull off, 3)) (ht : (pc : Int) + off = (tgt : Int)) (kk : zW D Wm ST b0 l Sg M bud X tgt lv st μ) : zW D Wm ST b0 l Sg M bud X pc lv ((2, r) :: st) μ := by
  intro p e R s m args below meth c Q H locs ls stk hF hP K
  obtain ⟨hx, hb, -, -, -⟩ := id hF.1
  obtain ⟨hH, hM, hV, hL, hS⟩ := hP
  obtain ⟨v, t, rfl, k1, k2⟩ := pm_S_cons hS
  obtain ⟨q, rfl, -⟩ := pm_v_ref k1 rfl
  refine lv_ifnonnull hx hb (pm_row hK hm hrow) (tgt := tgt) ht ?_
  exact kk p e R s m args below meth c Q H locs ls _ hF ⟨hH, hM, hV, hL, k2⟩ K
theorem zp_nul3 (hK : zKK ST) (hm : pm_m zMT zCDs M d) {k : Fin 4} {off : Int} (h1 : sx_row M.2.1 pc = some (pc, .astore_n k, 1)) (h2 : sx_row M.2.1 (pc + 1) = some (pc + 1, .aload_n k, 1)) (h3 : sx_row M.2.1 (pc + 1 + 1) = some (pc + 1 + 1, .ifnonnull off, 3)) (hn : (k : Nat) + 1 ≤ M.1.2.2.1) (hnl : pm_nl lv k = true) (kk : zW D Wm ST b0 l Sg M bud X (pc + 1 + 1 + 3) (lv.set k (3, 0)) st μ) : zW D Wm ST b0 l Sg M bud X pc lv ((3, 0) :: st) μ := by
  intro p e R s m args below meth c Q H locs ls stk hF hP K
  obtain ⟨hx, hb, -, -, -⟩ := id hF.1
  obtain ⟨hH, hM, hV, hL, hS⟩ := hP
  obtain ⟨v, t, rfl, k1, k2⟩ := pm_S_cons hS
  obtain rfl := pm_v_null k1 rfl
  refine lv_astore_nN hx hb (pm_row hK hm h1) rfl (pm_lvs_has hL) hn rfl (fun ls' hl' => ?_)
  refine lv_aload_nN hx hb (pm_row hK hm h2) rfl (hl'.2.2 _ List.mem_cons_self) ?_
  refine lv_ifnonnullN hx hb (pm_row hK hm h3) ?_
  exact kk p e R s m args below meth c Q H locs ls' _ hF ⟨hH, hM, hV, pm_store hL (Or.inr (Or.inr (Or.inr (Or.inl ⟨rfl, rfl⟩)))) hnl hl', k2⟩ K
end ZTR
/-! both sides' tapes are alike: what holds between the law's calls -/
def zR (μ : pm_Mem) : Prop := μ 88 1 = μ 205 11 ∧ μ 33 1 = μ 35 1 ∧ μ 76 1 = μ 78 1
/-- between both sides' calls: the class's is ahead by g -/
def zHt (g : Int → Int) (μ : pm_Mem) : Prop := μ 88 1 = g (μ 205 11) ∧ μ 33 1 = μ 35 1 ∧ μ 76 1 = μ 78 1
noncomputable def zRok4 (W : Nat) : Bool := zfrc W 33 1 && zfrc W 35 1 && zfrc W 76 1 && zfrc W 78 1
theorem zR_fr4 {W : Nat} {μ μ' : pm_Mem} (h : ∀ (r : Nat) (g : sx_Rg) (k : Nat) (t : sx_Ty), sx_bit W r = false → r < zNR → zRT2 r = some g → g.1 ≤ 2 → k < sx_wd g → sx_ft g k = some t → t.1 ≤ 1 → μ' r (k : Int) = μ r (k : Int)) (hc : zRok4 W = true) : μ' 33 1 = μ 33 1 ∧ μ' 35 1 = μ 35 1 ∧ μ' 76 1 = μ 76 1 ∧ μ' 78 1 = μ 78 1 := zNs_fr h hc
theorem zR_fr {W : Nat} {μ μ' : pm_Mem} (h : ∀ (r : Nat) (g : sx_Rg) (k : Nat) (t : sx_Ty), sx_bit W r = false → r < zNR → zRT2 r = some g → g.1 ≤ 2 → k < sx_wd g → sx_ft g k = some t → t.1 ≤ 1 → μ' r (k : Int) = μ r (k : Int)) (hc : zRok4 W = true) (hz : ∀ q ∈ sx_Fz, μ' q.1 (q.2 : Int) = μ q.1 (q.2 : Int)) (hR : zR μ) : zR μ' := by
  obtain ⟨n1, n2, n3, n4⟩ := zR_fr4 h hc
  have z1 : μ' 205 11 = μ 205 11 := hz (205, 11) (by decide)
  have z2 : μ' 88 1 = μ 88 1 := hz (88, 1) (by decide)
  exact ⟨by rw [z1, z2]; exact hR.1, by rw [n1, n2]; exact hR.2.1, by rw [n3, n4]; exact hR.2.2⟩
theorem zR_z {μ μ' : pm_Mem} (hz : ∀ q ∈ sx_Fz, μ' q.1 (q.2 : Int) = μ q.1 (q.2 : Int)) (a : μ' 33 1 = μ' 35 1) (b : μ' 76 1 = μ' 78 1) (hR : zR μ) : zR μ' := by
  have z1 : μ' 205 11 = μ 205 11 := hz (205, 11) (by decide)
  have z2 : μ' 88 1 = μ 88 1 := hz (88, 1) (by decide)
  exact ⟨by rw [z1, z2]; exact hR.1, a, b⟩
theorem zHt_x {W : Nat} {g : Int → Int} {μ μ' : pm_Mem} (h : ∀ (r : Nat) (g : sx_Rg) (k : Nat) (t : sx_Ty), sx_bit W r = false → r < zNR → zRT2 r = some g → g.1 ≤ 2 → k < sx_wd g → sx_ft g k = some t → t.1 ≤ 1 → μ' r (k : Int) = μ r (k : Int)) (hc : zRok4 W = true) (hc2 : zfrc W 205 11 = true) (hx : μ' 88 1 = g (μ 88 1)) (hR : zR μ) : zHt g μ' := by
  obtain ⟨n1, n2, n3, n4⟩ := zR_fr4 h hc
  have z1 : μ' 205 11 = μ 205 11 := zfr1 h hc2
  exact ⟨by rw [hx, z1, hR.1], by rw [n1, n2]; exact hR.2.1, by rw [n3, n4]; exact hR.2.2⟩
theorem zHt_m {W : Nat} {g : Int → Int} {μ μ' : pm_Mem} (h : ∀ (r : Nat) (g : sx_Rg) (k : Nat) (t : sx_Ty), sx_bit W r = false → r < zNR → zRT2 r = some g → g.1 ≤ 2 → k < sx_wd g → sx_ft g k = some t → t.1 ≤ 1 → μ' r (k : Int) = μ r (k : Int)) (hc : zRok4 W = true) (hc2 : zfrc W 88 1 = true) (hx : μ' 205 11 = g (μ 205 11)) (hR : zHt g μ) : zR μ' := by
  obtain ⟨n1, n2, n3, n4⟩ := zR_fr4 h hc
  have z1 : μ' 88 1 = μ 88 1 := zfr1 h hc2
  exact ⟨by rw [hx, z1, hR.1], by rw [n1, n2]; exact hR.2.1, by rw [n3, n4]; exact hR.2.2⟩
