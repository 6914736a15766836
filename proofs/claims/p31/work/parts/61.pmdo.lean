/-! pm, steps -/
def pm_rg (m : Nat) (n : Int) : Bool := match n with
  | .ofNat k => Nat.ble k m
  | .negSucc k => Nat.ble k m
theorem pm_rg_ok {m : Nat} {n : Int} (h : pm_rg m n = true) : -(m : Int) - 1 ≤ n ∧ n ≤ m := by
  unfold pm_rg at h
  split at h
  · have := Nat.le_of_ble_eq_true h
    simp only [Int.ofNat_eq_natCast]
    omega
  · have := Nat.le_of_ble_eq_true h
    omega
noncomputable def pm_con (ct : List (Nat × Int)) (i : Instr) : Option (Nat × Int) := match i with
  | .iconst n => match pm_rg 2147483647 n with
    | true => some (1, n)
    | false => none
  | .bipush n => match pm_rg 127 n with
    | true => some (2, n)
    | false => none
  | .sipush n => match pm_rg 32767 n with
    | true => some (3, n)
    | false => none
  | .ldc k => match sx_cget ct k with
    | some n => match pm_rg 2147483647 n with
      | true => some (2, n)
      | false => none
    | none => none
  | .ldc_w k => match sx_cget ct k with
    | some n => match pm_rg 2147483647 n with
      | true => some (3, n)
      | false => none
    | none => none
  | _ => none
def pm_and (x y : Int) : Int := (Int32.ofInt x &&& Int32.ofInt y).toInt
def pm_or (x y : Int) : Int := (Int32.ofInt x ||| Int32.ofInt y).toInt
def pm_xor (x y : Int) : Int := (Int32.ofInt x ^^^ Int32.ofInt y).toInt
def pm_shl (x y : Int) : Int := (Int32.ofInt x <<< (Int32.ofInt y &&& 31)).toInt
def pm_shr (x y : Int) : Int := (Int32.ofInt x >>> (Int32.ofInt y &&& 31)).toInt
def pm_w32 (x : Int) : Int := (Int32.ofInt x).toInt
def pm_bin (wr : Bool) (i : Instr) (x y : Int) : Option (Int × List Prop) := match i with
  | .iadd => match wr with
    | true => some (pm_w32 (x + y), [])
    | false => some (x + y, [pm_in (x + y)])
  | .isub => match wr with
    | true => some (pm_w32 (x - y), [])
    | false => some (x - y, [pm_in (x - y)])
  | .imul => match wr with
    | true => some (pm_w32 (x * y), [])
    | false => some (x * y, [pm_in (x * y)])
  | .iand => some (pm_and x y, [])
  | .ior => some (pm_or x y, [])
  | .ixor => some (pm_xor x y, [])
  | .ishl => some (pm_shl x y, [])
  | .ishr => some (pm_shr x y, [])
  | .idiv => some (x.tdiv y, [y ≠ 0, pm_in (x.tdiv y)])
  | .irem => some (x.tmod y, [y ≠ 0])
  | _ => none
noncomputable def pm_heap (FL : List sx_Fl) (RT : Nat → Option sx_Rg) (Wm : Nat) (i : Instr) (st : List pm_V) (μ : pm_Mem) : Option ((Nat × List pm_V × pm_Mem) × List Prop) := match i with
  | .getfield idx => match st with
    | a :: rest => match Nat.beq a.1 2, RT a.2.toNat, sx_flget FL idx with
      | true, some g, some q => match sx_ab (Nat.beq g.1 0) (sx_ab (Nat.beq g.2.1 q.2.1) (Nat.blt q.2.2.1 (sx_wd g))), sx_ft g q.2.2.1 with
        | true, some t => match t.1 with
          | 0 => some ((3, (0, μ a.2.toNat (q.2.2.1 : Int)) :: rest, μ), [])
          | 2 => some ((3, (2, t.2.1) :: rest, μ), [])
          | _ => none
        | _, _ => none
      | _, _, _ => none
    | [] => none
  | .putfield idx => match st with
    | v :: a :: rest => match sx_ab (Nat.beq v.1 0) (Nat.beq a.1 2), RT a.2.toNat, sx_flget FL idx with
      | true, some g, some q => match sx_ab (Nat.beq g.1 0) (sx_ab (Nat.beq g.2.1 q.2.1) (sx_ab (Nat.blt q.2.2.1 (sx_wd g)) (sx_ab (Nat.beq q.2.2.2.2 0) (Nat.beq g.2.2.1 0)))), sx_ft g q.2.2.1 with
        | true, some t => match t.1 with
          | 0 => match q.2.2.2.1 with
            | 0 => some ((3, rest, pm_up μ a.2.toNat (q.2.2.1 : Int) v.2), [sx_bit Wm a.2.toNat = true])
            | 1 => some ((3, rest, pm_up μ a.2.toNat (q.2.2.1 : Int) v.2), [sx_bit Wm a.2.toNat = true, 0 ≤ v.2 ∧ v.2 ≤ 1])
            | _ => none
          | _ => none
        | _, _ => none
      | _, _, _ => none
    | _ => none
  | .iaload => match st with
    | b :: a :: rest => match sx_ab (Nat.beq b.1 0) (Nat.beq a.1 2), RT a.2.toNat with
      | true, some g => match Nat.beq g.1 1 with
        | true => some ((1, (0, μ a.2.toNat b.2) :: rest, μ), [0 ≤ b.2 ∧ b.2 < (g.2.1 : Int)])
        | false => none
      | _, _ => none
    | _ => none
  | .iastore => match st with
    | v :: b :: a :: rest => match sx_ab (Nat.beq v.1 0) (sx_ab (Nat.beq b.1 0) (Nat.beq a.1 2)), RT a.2.toNat with
      | true, some g => match sx_ab (Nat.beq g.1 1) (Nat.beq g.2.2.1 0) with
        | true => some ((1, rest, pm_up μ a.2.toNat b.2 v.2), [sx_bit Wm a.2.toNat = true, 0 ≤ b.2 ∧ b.2 < (g.2.1 : Int)])
        | false => none
      | _, _ => none
    | _ => none
  | .arraylength => match st with
    | a :: rest => match Nat.beq a.1 2, RT a.2.toNat with
      | true, some g => match sx_ab (Nat.beq g.1 1) (Nat.blt g.2.1 2147483648) with
        | true => some ((1, (0, (g.2.1 : Int)) :: rest, μ), [])
        | false => none
      | _, _ => none
    | _ => none
  | _ => none
/-- locals, the stack, jumps -/
noncomputable def pm_loc (nL : Nat) (wr : Bool) (pc : Nat) (i : Instr) (lv st : List pm_V) : Option ((Nat × Nat × List pm_V × List pm_V) × List Prop) := match i with
  | .iinc k n => match lv[k]?, pm_rg 32767 n, Nat.blt k nL, pm_nl lv k with
    | some a, true, true, true => match Nat.beq a.1 0 with
      | true => match wr with
        | true => some ((3, pc + 3, lv.set k (0, pm_w32 (a.2 + n)), st), [])
        | false => some ((3, pc + 3, lv.set k (0, a.2 + n), st), [pm_in (a.2 + n)])
      | false => none
    | _, _, _, _ => none
  | .goto off => match sx_tgt pc off with
    | some t => some ((3, t, lv, st), [])
    | none => none
  | .pop => match st with
    | a :: rest => match sx_nb (Nat.beq a.1 1) with
      | true => some ((1, pc + 1, lv, rest), [])
      | false => none
    | [] => none
  | .dup => match st with
    | a :: rest => match sx_nb (Nat.beq a.1 1) with
      | true => some ((1, pc + 1, lv, a :: a :: rest), [])
      | false => none
    | [] => none
  | .ineg => match st with
    | a :: rest => match Nat.beq a.1 0 with
      | true => some ((1, pc + 1, lv, (0, -a.2) :: rest), [pm_in (-a.2)])
      | false => none
    | [] => none
  | i => match sx_ld i with
    | some (n, k, kd) => match lv[k]? with
      | some a => match sx_ab (sx_nb (Nat.beq kd 1)) (sx_ab (Nat.beq a.1 kd) (sx_nb (Nat.beq a.1 9))) with
        | true => some ((n, pc + n, lv, a :: st), [])
        | false => none
      | none => none
    | none => match sx_sto i, st with
      | some (n, k, kd), a :: rest => match sx_ab (sx_nb (Nat.beq kd 1)) (sx_ab (Nat.beq a.1 kd) (sx_ab (Nat.blt k nL) (pm_nl lv k))) with
        | true => some ((n, pc + n, lv.set k a, rest), [])
        | false => none
      | _, _ => none
noncomputable def pm_do (d : sx_Cd) (RT : Nat → Option sx_Rg) (Wm nL : Nat) (wr : Bool) (pc : Nat) (i : Instr) (len : Nat) (lv st : List pm_V) (μ : pm_Mem) : Option (pm_St × List Prop) := match pm_con d.1 i with
  | some (n, v) => match Nat.beq n len with
    | true => some ((pc + n, lv, (0, v) :: st, μ), [])
    | false => none
  | none => match pm_loc nL wr pc i lv st with
    | some ((n, pc', lv', st'), Φ) => match Nat.beq n len with
      | true => some ((pc', lv', st', μ), Φ)
      | false => none
    | none => match pm_heap d.2.2.1 RT Wm i st μ with
      | some ((n, st', μ'), Φ) => match Nat.beq n len with
        | true => some ((pc + n, lv, st', μ'), Φ)
        | false => none
      | none => match st with
        | b :: a :: rest => match sx_ab (Nat.beq b.1 0) (sx_ab (Nat.beq a.1 0) (Nat.beq len 1)), pm_bin wr i a.2 b.2 with
          | true, some (z, Φ) => some ((pc + 1, lv, (0, z) :: rest, μ), Φ)
          | _, _ => none
        | _ => none
noncomputable def pm_run (d : sx_Cd) (RT : Nat → Option sx_Rg) (Wm : Nat) (R : List (List (Nat × Instr × Nat))) (nL : Nat) (ws : List Nat) : Nat → Nat → List pm_V → List pm_V → pm_Mem → Option (pm_St × List Prop)
  | 0, pc, lv, st, μ => some ((pc, lv, st, μ), [])
  | n + 1, pc, lv, st, μ => match sx_row R pc with
    | some (_, i, len) => match pm_do d RT Wm nL (ws.any (fun w => Nat.beq w pc)) pc i len lv st μ with
      | some ((pc', lv', st', μ'), Φ) => match pm_run d RT Wm R nL ws n pc' lv' st' μ' with
        | some (s'', Φ') => some (s'', Φ ++ Φ')
        | none => none
      | none => none
    | none => none
/-- all that is told of a point -/
def pm_P (D : va_G) (cl : List vw_C) (RT : Nat → Option sx_Rg) (Wm : Nat) (b0 : sx_B) (Sg : Nat → Option Nat) (s : State) (nL : Nat) (lv st : List pm_V) (μ : pm_Mem) (H : Heap) (locs : List Loc) (ls : Array Slot) (stk : List Value) : Prop :=
  sx_H D cl (pm_w (sx_fz Wm RT)) b0 Sg s H ∧ pm_M D RT Sg μ H ∧ va_S b0.1 s.heap H locs ∧ pm_L Sg nL lv ls ∧ pm_S Sg st stk
theorem pm_int32 {x : Int} {y : Int32} (h : y.toInt = x) : Int32.ofInt x = y := by rw [← h]; exact Int32.ofInt_toInt y
theorem pm_w32_add {x y : Int32} {a b : Int} (hx : x.toInt = a) (hy : y.toInt = b) : (x + y).toInt = pm_w32 (a + b) := by
  unfold pm_w32
  rw [Int32.toInt_add, Int32.toInt_ofInt, hx, hy]
theorem pm_w32_sub {x y : Int32} {a b : Int} (hx : x.toInt = a) (hy : y.toInt = b) : (x - y).toInt = pm_w32 (a - b) := by
  unfold pm_w32
  rw [Int32.toInt_sub, Int32.toInt_ofInt, hx, hy]
theorem pm_w32_mul {x y : Int32} {a b : Int} (hx : x.toInt = a) (hy : y.toInt = b) : (x * y).toInt = pm_w32 (a * b) := by
  unfold pm_w32
  rw [Int32.toInt_mul, Int32.toInt_ofInt, hx, hy]
theorem pm_of32 {n : Int} (h : -2147483648 ≤ n ∧ n ≤ 2147483647) : (Int32.ofInt n).toInt = n := Int32.toInt_ofInt_of_le (by omega) (by omega)
section PMD
variable {D : va_G} {cl : List vw_C} {RT : Nat → Option sx_Rg} {Wm : Nat} {AO : sx_Ao} {TB : List Cond} {CJ : List (List Nat)} {MT : List (List sx_Me)} {CDs : List sx_Da} {b0 : sx_B} {l : Launch} {Sg : Nat → Option Nat} {M : sx_Me} {bud : sx_Bu} {p : Program} {e : Env} {R : Room} {s : State} {m : MethodId} {args : Array Value} {below : List Frame} {meth : Method} {c : Code} {Q : State → Prop} {H : Heap} {locs : List Loc} {ls : Array Slot} {stk : List Value} {nc ns pc nL len : Nat} {i : Instr} {lv st : List pm_V} {μ : pm_Mem} {cc : ByteArray} {own : String} {wr : Bool}
theorem pm_con_ok {ct : List (Nat × Int)} {n : Nat} {v : Int} (hC : sx_Cx p s m args c cc nL own TB) (hct : ∀ q ∈ ct, (Cond.constant own q.1 (Int32.ofInt q.2)).before args s = true) (h : pm_con ct i = some (n, v)) (hd : decode cc pc = .ok (i, n))
    (kk : ∀ x : Int32, x.toInt = v → W p l e R s m args below meth c H locs nc ns Q (F0 m (pc + n) ls (.int x :: stk))) : W p l e R s m args below meth c H locs nc ns Q (F0 m pc ls stk) := by
  obtain ⟨hx, hb, -, hown, -⟩ := hC
  unfold pm_con at h
  split at h
  · split at h
    · rename_i n' hr
      cases h
      have := pm_rg_ok hr
      exact lv_iconst hx hb hd rfl (kk _ (pm_of32 (by omega)))
    · cases h
  · split at h
    · rename_i n' hr
      cases h
      have := pm_rg_ok hr
      exact lv_bipush hx hb hd rfl (kk _ (by rw [Int8.toInt_toInt32]; exact Int8.toInt_ofInt_of_le (by omega) (by omega)))
    · cases h
  · split at h
    · rename_i n' hr
      cases h
      have := pm_rg_ok hr
      exact lv_sipush hx hb hd rfl (kk _ (by rw [Int16.toInt_toInt32]; exact Int16.toInt_ofInt_of_le (by omega) (by omega)))
    · cases h
  · split at h
    · rename_i k n' hk
      split at h
      · rename_i hr
        cases h
        have := pm_rg_ok hr
        exact lv_ldc hx hb hown (hct _ (sx_cget_mem hk)) hd (kk _ (pm_of32 (by omega)))
      · cases h
    · cases h
  · split at h
    · rename_i k n' hk
      split at h
      · rename_i hr
        cases h
        have := pm_rg_ok hr
        exact lv_ldcw hx hb hown (hct _ (sx_cget_mem hk)) hd (kk _ (pm_of32 (by omega)))
      · cases h
    · cases h
  · cases h
theorem pm_bin_ok {x y : Int32} {a b z : Int} {Φ : List Prop} {rest : List Value} (hC : sx_Cx p s m args c cc nL own TB) (h : pm_bin wr i a b = some (z, Φ)) (hΦ : pm_all Φ) (hxa : x.toInt = a) (hyb : y.toInt = b) (hd : decode cc pc = .ok (i, 1))
    (kk : ∀ w : Int32, w.toInt = z → W p l e R s m args below meth c H locs nc ns Q (F0 m (pc + 1) ls (.int w :: rest))) : W p l e R s m args below meth c H locs nc ns Q (F0 m pc ls (.int y :: .int x :: rest)) := by
  obtain ⟨hx, hb, -, hown, -⟩ := hC
  have ea := pm_int32 hxa
  have eb := pm_int32 hyb
  unfold pm_bin at h
  split at h
  · split at h
    · cases h
      exact lv_iadd hx hb hd (kk _ (pm_w32_add hxa hyb))
    · cases h
      have h1 : pm_in (a + b) := hΦ.1
      unfold pm_in at h1
      exact lv_iadd hx hb hd (kk _ (by rw [Jvm.Kit.i32_add (by omega) (by omega), hxa, hyb]))
  · split at h
    · cases h
      exact lv_isub hx hb hd (kk _ (pm_w32_sub hxa hyb))
    · cases h
      have h1 : pm_in (a - b) := hΦ.1
      unfold pm_in at h1
      exact lv_isub hx hb hd (kk _ (by rw [Jvm.Kit.i32_sub (by omega) (by omega), hxa, hyb]))
  · split at h
    · cases h
      exact lv_imul hx hb hd (kk _ (pm_w32_mul hxa hyb))
    · cases h
      have h1 : pm_in (a * b) := hΦ.1
      unfold pm_in at h1
      exact lv_imul hx hb hd (kk _ (by rw [Jvm.Kit.i32_mul (by rw [hxa, hyb]; omega) (by rw [hxa, hyb]; omega), hxa, hyb]))
  · cases h
    exact lv_iand hx hb hd (kk _ (by unfold pm_and; rw [ea, eb]))
  · cases h
    exact lv_ior hx hb hd (kk _ (by unfold pm_or; rw [ea, eb]))
  · cases h
    exact lv_ixor hx hb hd (kk _ (by unfold pm_xor; rw [ea, eb]))
  · cases h
    exact lv_ishl hx hb hd (kk _ (by unfold pm_shl; rw [ea, eb]))
  · cases h
    exact lv_ishr hx hb hd (kk _ (by unfold pm_shr; rw [ea, eb]))
  · cases h
    obtain ⟨h1, h2, -⟩ := hΦ
    have h1 : b ≠ 0 := h1
    unfold pm_in at h2
    refine lv_idiv hx hb hd (fun h => h1 (by rw [← hyb, h]; decide)) (kk _ ?_)
    rw [Jvm.Kit.i32_div (fun h => ?_), hxa, hyb]
    rw [hxa, hyb] at h
    rw [h.1, h.2] at h2
    exact absurd h2.2 (by decide)
  · cases h
    have h1 : b ≠ 0 := hΦ.1
    refine lv_irem hx hb hd (fun h => h1 (by rw [← hyb, h]; decide)) (kk _ ?_)
    rw [rem_toInt, hxa, hyb]
  · cases h
theorem pm_loc_ok {n pc' : Nat} {lv' st' : List pm_V} {Φ : List Prop} (hC : sx_Cx p s m args c cc nL own TB) (h : pm_loc nL wr pc i lv st = some ((n, pc', lv', st'), Φ)) (hΦ : pm_all Φ) (hL : pm_L Sg nL lv ls) (hS : pm_S Sg st stk) (hd : decode cc pc = .ok (i, n))
    (kk : ∀ ls' stk', pm_L Sg nL lv' ls' → pm_S Sg st' stk' → W p l e R s m args below meth c H locs nc ns Q (F0 m pc' ls' stk')) : W p l e R s m args below meth c H locs nc ns Q (F0 m pc ls stk) := by
  obtain ⟨hx, hb, -, hown, -⟩ := hC
  have hlv := pm_lvs_has hL
  unfold pm_loc at h
  split at h
  · rename_i k z
    split at h
    · rename_i a h1 h2 h3 h4
      split at h
      · rename_i ha
        have ha := Nat.eq_of_beq_eq_true ha
        have hk := Nat.blt_eq.mp h3
        have hz := pm_rg_ok h2
        obtain ⟨v, v1, v2⟩ := hL.2.2 k a h1 (by omega)
        obtain ⟨x, rfl, hxa⟩ := pm_v_int v1 ha
        obtain ⟨j, hj⟩ := List.mem_iff_getElem?.mp (pm_lvs_mem v2)
        have hz32 : (Int32.ofInt z).toInt = z := pm_of32 (by omega)
        split at h
        · cases h
          exact lv_iinc hx hb hd hlv hj rfl hk rfl (fun ls' hl' => kk ls' stk (pm_store hL (Or.inl ⟨rfl, _, rfl, pm_w32_add hxa hz32⟩) h4 hl') hS)
        · cases h
          have h5 : pm_in (a.2 + z) := hΦ.1
          unfold pm_in at h5
          exact lv_iinc hx hb hd hlv hj rfl hk rfl (fun ls' hl' => kk ls' stk (pm_store hL (Or.inl ⟨rfl, _, rfl, by rw [Jvm.Kit.i32_add (by rw [hz32]; omega) (by rw [hz32]; omega), hz32, hxa]⟩) h4 hl') hS)
      · cases h
    · cases h
  · split at h
    · rename_i t ht
      cases h
      exact lv_goto hx hb hd (sx_tgt_ok ht) (kk ls stk hL hS)
    · cases h
  · split at h
    · split at h
      · rename_i a rest ha
        cases h
        obtain ⟨v, r, rfl, h1, h2⟩ := pm_S_cons hS
        have hc := pm_cat h1
        rw [sx_nb_eq] at ha
        rw [if_neg (fun he => by rw [he] at ha; cases ha)] at hc
        exact lv_pop hx hb hd hc (kk ls r hL h2)
      · cases h
    · cases h
  · split at h
    · split at h
      · rename_i a rest ha
        cases h
        obtain ⟨v, r, rfl, h1, h2⟩ := pm_S_cons hS
        have hc := pm_cat h1
        rw [sx_nb_eq] at ha
        rw [if_neg (fun he => by rw [he] at ha; cases ha)] at hc
        exact lv_dup hx hb hd hc (kk ls _ hL ⟨h1, h1, h2⟩)
      · cases h
    · cases h
  · split at h
    · split at h
      · rename_i a rest y0 ha
        cases h
        obtain ⟨v, r, rfl, h1, h2⟩ := pm_S_cons hS
        obtain ⟨y, rfl, hy⟩ := pm_v_int h1 (Nat.eq_of_beq_eq_true ha)
        have h5 : pm_in (-a.2) := hΦ.1
        unfold pm_in at h5
        exact lv_ineg hx hb hd (kk ls _ hL ⟨Or.inl ⟨rfl, _, rfl, by rw [Int32.toInt_neg, hy]; exact Jvm.Kit.bmod32 (by omega) (by omega)⟩, h2⟩)
      · cases h
    · cases h
  · split at h
    · rename_i n' k kd hld
      split at h
      · rename_i a ha
        split at h
        · rename_i hc
          simp only [sx_ab_eq, sx_nb_eq, Bool.and_eq_true, Bool.not_eq_true'] at hc
          obtain ⟨c1, c2, c3⟩ := hc
          have c2 := Nat.eq_of_beq_eq_true c2
          cases h
          obtain ⟨v, v1, v2⟩ := hL.2.2 k a ha (fun he => by rw [he] at c3; cases c3)
          have K := kk ls (v :: stk) hL ⟨v1, hS⟩
          unfold sx_ld at hld
          split at hld
          · cases hld
            obtain ⟨x, rfl, -⟩ := pm_v_int v1 c2
            exact lv_iload_n hx hb hd rfl v2 K
          · cases hld
            obtain ⟨x, rfl, -⟩ := pm_v_int v1 c2
            exact lv_iload hx hb hd v2 K
          · cases hld; cases c1
          · cases hld; cases c1
          · cases hld
            obtain ⟨x, rfl, -⟩ := pm_v_ref v1 c2
            exact lv_aload_n hx hb hd rfl v2 K
          · cases hld
            obtain ⟨x, rfl, -⟩ := pm_v_ref v1 c2
            exact lv_aload hx hb hd v2 K
          · cases hld
        · cases h
      · cases h
    · split at h
      · rename_i n' k kd a rest hsto
        split at h
        · rename_i hc
          simp only [sx_ab_eq, sx_nb_eq, Bool.and_eq_true, Bool.not_eq_true'] at hc
          obtain ⟨c1, c2, c3, c4⟩ := hc
          have c2 := Nat.eq_of_beq_eq_true c2
          have c3 := Nat.blt_eq.mp c3
          cases h
          obtain ⟨v, r, rfl, h1, h2⟩ := pm_S_cons hS
          unfold sx_sto at hsto
          split at hsto
          · cases hsto
            obtain ⟨x, rfl, -⟩ := pm_v_int h1 c2
            exact lv_istore_n hx hb hd rfl hlv c3 rfl (fun ls' hl' => kk ls' r (pm_store hL h1 c4 hl') h2)
          · cases hsto
            obtain ⟨x, rfl, -⟩ := pm_v_int h1 c2
            exact lv_istore hx hb hd hlv c3 rfl (fun ls' hl' => kk ls' r (pm_store hL h1 c4 hl') h2)
          · cases hsto; cases c1
          · cases hsto; cases c1
          · cases hsto
            obtain ⟨x, rfl, -⟩ := pm_v_ref h1 c2
            exact lv_astore_n hx hb hd rfl hlv c3 rfl (fun ls' hl' => kk ls' r (pm_store hL h1 c4 hl') h2)
          · cases hsto
            obtain ⟨x, rfl, -⟩ := pm_v_ref h1 c2
            exact lv_astore hx hb hd hlv c3 rfl (fun ls' hl' => kk ls' r (pm_store hL h1 c4 hl') h2)
          · cases hsto
        · cases h
      · cases h
end PMD
