/-! LAMPS: how many divisors up to m, and how many burn -/
def zdv (j : Nat) : Nat → Nat
  | 0 => 0
  | m + 1 => zdv j m + (if j % (m + 1) = 0 then 1 else 0)
def zds (m : Nat) : Nat → Nat
  | 0 => 0
  | n + 1 => zds m n + zdv (n + 1) m % 2
theorem zdv_le (j : Nat) : ∀ m, zdv j m ≤ m
  | 0 => Nat.le_refl 0
  | m + 1 => by
    have := zdv_le j m
    simp only [zdv]
    split <;> omega
theorem zds_le (m : Nat) : ∀ n, zds m n ≤ n
  | 0 => Nat.le_refl 0
  | n + 1 => by
    have := zds_le m n
    simp only [zds]
    omega
theorem zmul_gap {I x P : Nat} (hI : 0 < I) (hx : x % I = 0) (hP : P % I = 0) (h : P < x) : P + I ≤ x := by
  have e1 := Nat.div_add_mod x I
  have e2 := Nat.div_add_mod P I
  have hlt : P / I < x / I := by
    refine Nat.lt_of_not_le fun hle => ?_
    have := Nat.mul_le_mul_left I hle
    omega
  have := Nat.mul_le_mul_left I hlt
  rw [Nat.mul_succ] at this
  omega
section ZLA
variable {L : Nat} {D : va_G} {b0 : Nat} {l : Launch} {Sg : Nat → Option Nat} {bud : sx_Bu} {nc ns : Nat} {p : Program} {e : Env} {R : Room} {s : State} {m : MethodId} {args : Array Value} {below : List Frame} {meth : Method} {c : Code} {Q : State → Prop} {H : Heap} {locs : List Loc} {own : String} {Ts : List Cond}
set_option maxRecDepth 100000 in
theorem zl_turns {J Mm th : Nat} {j mm : Int32} (hC : sx_Cx p s m args c prog_14_method_109_code 5 own Ts) (hj : j.toInt = (J : Int)) (hm : mm.toInt = (Mm : Int)) (hM : Mm ≤ 500) (K : ∀ (a : Int32) (ls' : Array Slot), a.toInt = (zdv J Mm : Int) → W p l e R s m args below meth c H locs nc ns Q (F0 m 29 ls' [.int a])) :
    ∀ (d k : Nat) {n i : Int32} {ls : Array Slot}, k + d = Mm → lv_has ls 5 [(0, .ref th), (1, .int j), (2, .int mm), (3, .int n), (4, .int i)] → i.toInt = ((k + 1 : Nat) : Int) → n.toInt = (zdv J k : Int) → W p l e R s m args below meth c H locs nc ns Q (F0 m 5 ls []) := by
  have hR := zkDe_rows zDe185
  obtain ⟨hx, hb, -, -, -⟩ := id hC
  have t1 : (Int32.ofInt 1).toInt = 1 := by decide
  intro d
  induction d with
  | zero =>
    intro k n i ls hk hl hi hn
    refine pv_W hx hb hR 2 8 [(0, .ref th), (1, .int j), (2, .int mm), (3, .int n), (4, .int i)] [.int mm, .int i] rfl hl (fun ls hl => ?_)
    refine pv_icmp hC hR .gt 20 28 rfl rfl (fun h => ?_) (fun h => ?_)
    · refine pv_W hx hb hR 1 29 [(0, .ref th), (1, .int j), (2, .int mm), (3, .int n), (4, .int i)] [.int n] rfl hl (fun ls hl => ?_)
      exact K n ls (by rw [hn]; congr 2)
    · have h : i.toInt ≤ mm.toInt := h
      omega
  | succ d ih =>
    intro k n i ls hk hl hi hn
    have hnb := zdv_le J k
    refine pv_W hx hb hR 2 8 [(0, .ref th), (1, .int j), (2, .int mm), (3, .int n), (4, .int i)] [.int mm, .int i] rfl hl (fun ls hl => ?_)
    refine pv_icmp hC hR .gt 20 28 rfl rfl (fun h => ?_) (fun h => ?_)
    · have h : mm.toInt < i.toInt := h
      omega
    have hii : (i + Int32.ofInt 1).toInt = ((k + 1 + 1 : Nat) : Int) := by rw [Jvm.Kit.i32_add (by omega) (by omega), t1, hi]; omega
    refine pv_W hx hb hR 2 14 [(0, .ref th), (1, .int j), (2, .int mm), (3, .int n), (4, .int i)] [.int i, .int j] rfl hl (fun ls hl => ?_)
    refine zirem hC hR rfl (by omega) (fun z hz => ?_)
    have hz2 : z.toInt = ((J % (k + 1) : Nat) : Int) := by rw [hz, hj, hi, Int.tmod_eq_emod_of_nonneg (by omega)]; rfl
    refine pv_if hC hR .ne 7 22 rfl rfl (fun h => ?_) (fun h => ?_)
    · have h : z.toInt ≠ 0 := h
      refine pv_W hx hb hR 2 5 [(4, .int (i + Int32.ofInt 1)), (0, .ref th), (1, .int j), (2, .int mm), (3, .int n)] [] rfl hl (fun ls hl => ?_)
      refine ih (k + 1) (n := n) (i := i + Int32.ofInt 1) (by omega) (lv_sub hl [1, 2, 3, 4, 0] rfl) hii ?_
      rw [hn, zdv, if_neg (by omega)]; omega
    · have h : z.toInt = 0 := h
      refine pv_W hx hb hR 6 5 [(4, .int (i + Int32.ofInt 1)), (3, .int (n + Int32.ofInt 1)), (0, .ref th), (1, .int j), (2, .int mm)] [] rfl hl (fun ls hl => ?_)
      refine ih (k + 1) (n := n + Int32.ofInt 1) (i := i + Int32.ofInt 1) (by omega) (lv_sub hl [2, 3, 4, 1, 0] rfl) hii ?_
      rw [Jvm.Kit.i32_add (by omega) (by omega), t1, hn, zdv, if_pos (by omega)]; omega
set_option maxRecDepth 100000 in
theorem zc_turns {J Mm th : Nat} {j mm : Int32} (hj : j.toInt = (J : Int)) (hm : mm.toInt = (Mm : Int)) (hM : Mm ≤ 500) : pv_CG D zCl (sxRT L) zAO zTB b0 l zM185 bud Sg H [.ref th, .int j, .int mm] (fun vo H2 => H2 = H ∧ ∃ a : Int32, vo = some (.int a) ∧ a.toInt = (zdv J Mm : Int)) := by
  intro p e R s m args below meth cc Q ls hF hh hH hl K
  have hR := zkDe_rows zDe185
  obtain ⟨hx, hb, -, -, -⟩ := id hF.1
  refine pv_W hx hb hR 4 5 [(4, .int (Int32.ofInt 1)), (3, .int (Int32.ofInt 0)), (0, .ref th), (1, .int j), (2, .int mm)] [] rfl hl (fun ls hl => ?_)
  refine zl_turns hF.1 hj hm hM (fun a ls' ha => ?_) Mm 0 (by omega) (lv_sub hl [2, 3, 4, 1, 0] rfl) (by decide) (show (Int32.ofInt 0).toInt = ((0 : Nat) : Int) by decide)
  exact K (some (.int a)) H [] .ireturn 29 ls' hH (by rw [hh]; exact va_S.rf) ⟨rfl, a, rfl, ha⟩ (Or.inl ⟨rfl, rfl, _, rfl⟩) (pv_row hR rfl)
set_option maxRecDepth 100000 in
theorem zw_lampj {J Mm th r : Nat} {g : sx_Rg} {n j mm : Int32} {ls : Array Slot} (hF : sx_Frm D zCl zAO zTB b0 zM184 bud p R s m args meth c) (hb1 : 1 ≤ bud.1) (hb2 : 24 ≤ bud.2.1) (hnc : nc ≤ bud.2.2.1) (hns : ns ≤ bud.2.2.2) (hH : sx_H D zCl (sxRT L) b0 Sg s H) (hV : va_S (fun q => b0 ≤ q) s.heap H locs) (h1 : Sg th = some r) (h2 : sxRT L r = some g) (hg0 : g.1 = 0) (hg1 : g.2.1 = 12)
    (hl : lv_has ls 6 [(0, .ref th), (1, .int n), (2, .int mm), (3, .int j)]) (hj : j.toInt = (J : Int)) (hm : mm.toInt = (Mm : Int)) (hM : Mm ≤ 500)
    (K : ∀ (y : Int32) (ls' : Array Slot) (locs' : List Loc), va_S (fun q => b0 ≤ q) s.heap H locs' → y.toInt = ((zdv J Mm % 2 : Nat) : Int) → lv_has ls' 6 [] → W p l e R s m args below meth c H locs' nc ns Q (F0 m 58 ls' [.int y])) : W p l e R s m args below meth c H locs nc ns Q (F0 m 46 ls []) := by
  have hR := zkDe_rows zDe184
  obtain ⟨hx, hb, -, -, -⟩ := id hF.1
  have t2 : (Int32.ofInt 2).toInt = 2 := by decide
  refine pv_W hx hb hR 3 49 [(0, .ref th), (1, .int n), (2, .int mm), (3, .int j)] [.int mm, .int j, .ref th] rfl hl (fun ls hl => ?_)
  refine zcall0 (L := L) (M := zM185) (vs := [.ref th, .int j, .int mm]) (rest := []) zD12 (463, 0, 185, 2) (by decide +kernel) rfl (by decide +kernel) rfl (zmt (j := 184) rfl) rfl hF rfl (Nat.le_of_ble_eq_true rfl) (Nat.le_of_ble_eq_true rfl) hb1 hb2 (fun h => by cases h) rfl rfl hnc hns (zrecv (cq := (zR12, zT12, 73)) hF.2.1 hH h1 h2 hg0 (by rw [hg1]; rfl) rfl) hH hV hl.1 (zc_turns hj hm hM) (fun vo H2 locs2 k1 k2 k3 => ?_)
  obtain ⟨rfl, a, rfl, ha⟩ := k3
  refine pv_W hx hb hR 3 58 [(0, .ref th), (1, .int n), (2, .int mm), (3, .int j)] [.int (a - a / Int32.ofInt 2 * Int32.ofInt 2)] rfl hl (fun ls hl => ?_)
  refine K _ ls locs2 k2 ?_ (lv_sub hl [] rfl)
  rw [rem_toInt, t2, ha, Int.tmod_eq_emod_of_nonneg (by omega)]; rfl
set_option maxRecDepth 100000 in
theorem zw_lamps {Nn Mm th r : Nat} {g : sx_Rg} {n mm : Int32} (hF : sx_Frm D zCl zAO zTB b0 zM184 bud p R s m args meth c) (hb1 : 1 ≤ bud.1) (hb2 : 24 ≤ bud.2.1) (hnc : nc ≤ bud.2.2.1) (hns : ns ≤ bud.2.2.2) (hH : sx_H D zCl (sxRT L) b0 Sg s H) (h1 : Sg th = some r) (h2 : sxRT L r = some g) (hg0 : g.1 = 0) (hg1 : g.2.1 = 12)
    (hn : n.toInt = (Nn : Int)) (hN : Nn ≤ 500) (hm : mm.toInt = (Mm : Int)) (hM : Mm ≤ 500)
    (K : ∀ (y : Int32) (ls' : Array Slot) (locs' : List Loc), va_S (fun q => b0 ≤ q) s.heap H locs' → y.toInt = (zds Mm Nn : Int) → lv_has ls' 6 [] → W p l e R s m args below meth c H locs' nc ns Q (F0 m 93 ls' [.int y])) :
    ∀ (d k : Nat) {all i : Int32} {ls : Array Slot} {locs : List Loc}, va_S (fun q => b0 ≤ q) s.heap H locs → k + d = Nn → lv_has ls 6 [(0, .ref th), (1, .int n), (2, .int mm), (4, .int all), (5, .int i)] → i.toInt = ((k + 1 : Nat) : Int) → all.toInt = (zds Mm k : Int) → W p l e R s m args below meth c H locs nc ns Q (F0 m 65 ls []) := by
  have hR := zkDe_rows zDe184
  obtain ⟨hx, hb, -, -, -⟩ := id hF.1
  have t2 : (Int32.ofInt 2).toInt = 2 := by decide
  have t1 : (Int32.ofInt 1).toInt = 1 := by decide
  intro d
  induction d with
  | zero =>
    intro k all i ls locs hV hk hl hi ha
    refine pv_W hx hb hR 2 68 [(0, .ref th), (1, .int n), (2, .int mm), (4, .int all), (5, .int i)] [.int n, .int i] rfl hl (fun ls hl => ?_)
    refine pv_icmp hF.1 hR .gt 23 91 rfl rfl (fun h => ?_) (fun h => ?_)
    · refine pv_W hx hb hR 1 93 [(0, .ref th), (1, .int n), (2, .int mm), (4, .int all), (5, .int i)] [.int all] rfl hl (fun ls hl => ?_)
      exact K all ls locs hV (by rw [ha]; congr 2) (lv_sub hl [] rfl)
    · have h : i.toInt ≤ n.toInt := h
      omega
  | succ d ih =>
    intro k all i ls locs hV hk hl hi ha
    have hab := zds_le Mm k
    refine pv_W hx hb hR 2 68 [(0, .ref th), (1, .int n), (2, .int mm), (4, .int all), (5, .int i)] [.int n, .int i] rfl hl (fun ls hl => ?_)
    refine pv_icmp hF.1 hR .gt 23 91 rfl rfl (fun h => ?_) (fun h => ?_)
    · have h : n.toInt < i.toInt := h
      omega
    refine pv_W hx hb hR 4 77 [(0, .ref th), (1, .int n), (2, .int mm), (4, .int all), (5, .int i)] [.int mm, .int i, .ref th, .int all] rfl hl (fun ls hl => ?_)
    refine zcall0 (L := L) (M := zM185) (vs := [.ref th, .int i, .int mm]) (rest := [.int all]) zD12 (463, 0, 185, 2) (by decide +kernel) rfl (by decide +kernel) rfl (zmt (j := 184) rfl) rfl hF rfl (Nat.le_of_ble_eq_true rfl) (Nat.le_of_ble_eq_true rfl) hb1 hb2 (fun h => by cases h) rfl rfl hnc hns (zrecv (cq := (zR12, zT12, 73)) hF.2.1 hH h1 h2 hg0 (by rw [hg1]; rfl) rfl) hH hV hl.1 (zc_turns hi hm hM) (fun vo H2 locs2 k1 k2 k3 => ?_)
    obtain ⟨rfl, a, rfl, ha2⟩ := k3
    have e1 : (a - a / Int32.ofInt 2 * Int32.ofInt 2).toInt = ((zdv (k + 1) Mm % 2 : Nat) : Int) := by rw [rem_toInt, t2, ha2, Int.tmod_eq_emod_of_nonneg (by omega)]; rfl
    refine pv_W hx hb hR 6 65 [(5, .int (i + Int32.ofInt 1)), (4, .int (all + (a - a / Int32.ofInt 2 * Int32.ofInt 2))), (0, .ref th), (1, .int n), (2, .int mm)] [] rfl hl (fun ls hl => ?_)
    refine ih (k + 1) k2 (by omega) (lv_sub hl [2, 3, 4, 1, 0] rfl) (by rw [Jvm.Kit.i32_add (by omega) (by omega), t1, hi]; omega) ?_
    rw [Jvm.Kit.i32_add (by omega) (by omega), e1, ha, zds]; omega
end ZLA
