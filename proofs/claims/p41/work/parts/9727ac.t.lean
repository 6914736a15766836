/-! bytes; a switch inside and outside, null (as in the rows of the tape) -/
theorem zand255 (x : Int) : 0 ≤ pm_and x 255 ∧ pm_and x 255 ≤ 255 := by
  unfold pm_and
  have e : (Int32.ofInt x &&& Int32.ofInt 255).toBitVec = (Int32.ofInt x).toBitVec &&& 255#32 := by
    rw [Int32.toBitVec_and]
    rfl
  have h : ((Int32.ofInt x).toBitVec &&& 255#32).toNat ≤ 255 := by
    rw [BitVec.toNat_and]
    exact Nat.and_le_right
  have e2 : (Int32.ofInt x &&& Int32.ofInt 255).toInt = (((Int32.ofInt x).toBitVec &&& 255#32).toNat : Int) := by
    show (Int32.ofInt x &&& Int32.ofInt 255).toBitVec.toInt = _
    rw [e, BitVec.toInt_eq_toNat_cond, if_pos (by omega)]
  omega
section ZTR
variable {D : va_G} {Wm : Nat} {ST : List (String × String × String × Nat)} {b0 : sx_B} {l : Launch} {Sg : Nat → Option Nat} {M : sx_Me} {bud : sx_Bu} {X : Nat → List pm_V → List pm_V → pm_Mem → Prop} {pc : Nat} {lv st : List pm_V} {μ : pm_Mem} {d : sx_Da}
theorem zp_tin_TT (hK : zKK ST) (hm : pm_m zMT zCDs M d) {dflt lo hi off : Int} {offs : Array Int} {len tgt : Nat} {x : Int} (hrow : sx_row M.2.1 pc = some (pc, .tableswitch dflt lo hi offs, len)) (h1 : ¬ x < lo) (h2 : ¬ hi < x) (ho : offs[(x - lo).toNat]? = some off) (ht : (pc : Int) + off = (tgt : Int)) (kk : zW D Wm ST b0 l Sg M bud X tgt lv st μ) : zW D Wm ST b0 l Sg M bud X pc lv ((0, x) :: st) μ := by
  intro p e R s m args below meth c Q H locs ls stk hF hP K
  obtain ⟨hx, hb, -, -, -⟩ := id hF.1
  obtain ⟨hH, hM, hV, hL, hS⟩ := hP
  obtain ⟨v, t, rfl, k1, k2⟩ := pm_S_cons hS
  obtain ⟨y, rfl, hy⟩ := pm_v_int k1 rfl
  have hy : y.toInt = x := hy
  refine lv_tableIn hx hb (pm_row hK hm hrow) (by rw [hy]; exact h1) (by rw [hy]; exact h2) (off := off) (tgt := tgt) (by rw [hy]; exact ho) ht ?_
  exact kk p e R s m args below meth c Q H locs ls _ hF ⟨hH, hM, hV, hL, k2⟩ K
theorem zp_tout_TT (hK : zKK ST) (hm : pm_m zMT zCDs M d) {dflt lo hi : Int} {offs : Array Int} {len tgt : Nat} {x : Int} (hrow : sx_row M.2.1 pc = some (pc, .tableswitch dflt lo hi offs, len)) (h : x < lo ∨ hi < x) (ht : (pc : Int) + dflt = (tgt : Int)) (kk : zW D Wm ST b0 l Sg M bud X tgt lv st μ) : zW D Wm ST b0 l Sg M bud X pc lv ((0, x) :: st) μ := by
  intro p e R s m args below meth c Q H locs ls stk hF hP K
  obtain ⟨hx, hb, -, -, -⟩ := id hF.1
  obtain ⟨hH, hM, hV, hL, hS⟩ := hP
  obtain ⟨v, t, rfl, k1, k2⟩ := pm_S_cons hS
  obtain ⟨y, rfl, hy⟩ := pm_v_int k1 rfl
  have hy : y.toInt = x := hy
  refine lv_tableOut hx hb (pm_row hK hm hrow) (by rw [hy]; exact h) (tgt := tgt) ht ?_
  exact kk p e R s m args below meth c Q H locs ls _ hF ⟨hH, hM, hV, hL, k2⟩ K
theorem zp_null_TT (hK : zKK ST) (hm : pm_m zMT zCDs M d) (hrow : sx_row M.2.1 pc = some (pc, .aconst_null, 1)) (kk : zW D Wm ST b0 l Sg M bud X (pc + 1) lv ((3, 0) :: st) μ) : zW D Wm ST b0 l Sg M bud X pc lv st μ := by
  intro p e R s m args below meth c Q H locs ls stk hF hP K
  obtain ⟨hx, hb, -, -, -⟩ := id hF.1
  obtain ⟨hH, hM, hV, hL, hS⟩ := hP
  refine lv_null hx hb (pm_row hK hm hrow) ?_
  exact kk p e R s m args below meth c Q H locs ls _ hF ⟨hH, hM, hV, hL, ⟨Or.inr (Or.inr (Or.inr (Or.inl ⟨rfl, rfl⟩))), hS⟩⟩ K
theorem zp_ifnn_TT (hK : zKK ST) (hm : pm_m zMT zCDs M d) {off : Int} {tgt : Nat} {r : Int} (hrow : sx_row M.2.1 pc = some (pc, .ifnonnull off, 3)) (ht : (pc : Int) + off = (tgt : Int)) (kk : zW D Wm ST b0 l Sg M bud X tgt lv st μ) : zW D Wm ST b0 l Sg M bud X pc lv ((2, r) :: st) μ := by
  intro p e R s m args below meth c Q H locs ls stk hF hP K
  obtain ⟨hx, hb, -, -, -⟩ := id hF.1
  obtain ⟨hH, hM, hV, hL, hS⟩ := hP
  obtain ⟨v, t, rfl, k1, k2⟩ := pm_S_cons hS
  obtain ⟨q, rfl, -⟩ := pm_v_ref k1 rfl
  refine lv_ifnonnull hx hb (pm_row hK hm hrow) (tgt := tgt) ht ?_
  exact kk p e R s m args below meth c Q H locs ls _ hF ⟨hH, hM, hV, hL, k2⟩ K
theorem zp_nul3_TT (hK : zKK ST) (hm : pm_m zMT zCDs M d) {k : Fin 4} {off : Int} (h1 : sx_row M.2.1 pc = some (pc, .astore_n k, 1)) (h2 : sx_row M.2.1 (pc + 1) = some (pc + 1, .aload_n k, 1)) (h3 : sx_row M.2.1 (pc + 1 + 1) = some (pc + 1 + 1, .ifnonnull off, 3)) (hn : (k : Nat) + 1 ≤ M.1.2.2.1) (hnl : pm_nl lv k = true) (kk : zW D Wm ST b0 l Sg M bud X (pc + 1 + 1 + 3) (lv.set k (3, 0)) st μ) : zW D Wm ST b0 l Sg M bud X pc lv ((3, 0) :: st) μ := by
  intro p e R s m args below meth c Q H locs ls stk hF hP K
  obtain ⟨hx, hb, -, -, -⟩ := id hF.1
  obtain ⟨hH, hM, hV, hL, hS⟩ := hP
  obtain ⟨v, t, rfl, k1, k2⟩ := pm_S_cons hS
  obtain rfl := pm_v_null k1 rfl
  refine lv_astore_nN hx hb (pm_row hK hm h1) rfl (pm_lvs_has hL) hn rfl (fun ls' hl' => ?_)
  refine lv_aload_nN hx hb (pm_row hK hm h2) rfl (hl'.2.2 _ List.mem_cons_self) ?_
  refine lv_ifnonnullN hx hb (pm_row hK hm h3) ?_
  exact kk p e R s m args below meth c Q H locs ls' _ hF ⟨hH, hM, hV, pm_store hL (Or.inr (Or.inr (Or.inr (Or.inl ⟨rfl, rfl⟩)))) hnl hl', k2⟩ K
end ZTR
