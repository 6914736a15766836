/-! sx, beside the executor: a run over numbers that are not literals, for loops that are walked by hand. It touches no heap and stops ahead of a branch. -/
/-- the place, locals, stack -/
abbrev pv_St : Type := Nat × List (Nat × Value) × List Value
def pv_lk (lv : List (Nat × Value)) (i : Nat) : Option Value := match lv with
  | [] => none
  | q :: r => if q.1 = i then some q.2 else pv_lk r i
def pv_put (lv : List (Nat × Value)) (i : Nat) (x : Int32) : List (Nat × Value) := (i, Value.int x) :: lv.filter (fun q => !(q.1 == i) && !(q.1 + 1 == i && q.2.category == 2))
def pv_op (i : Instr) (x y : Int32) : Option Int32 := match i with
  | .iadd => some (x + y)
  | .isub => some (x - y)
  | .imul => some (x * y)
  | .iand => some (x &&& y)
  | .ixor => some (x ^^^ y)
  | .idiv => if y = 0 then none else some (x / y)
  | .irem => if y = 0 then none else some (x - x / y * y)
  | _ => none
def pv_do (nL pc : Nat) (i : Instr) (len : Nat) (lv : List (Nat × Value)) (st : List Value) : Option pv_St := match i with
  | .iconst n => if len = 1 then some (pc + 1, lv, .int (Int32.ofInt n) :: st) else none
  | .bipush n => if len = 2 then some (pc + 2, lv, .int (Int8.ofInt n).toInt32 :: st) else none
  | .sipush n => if len = 3 then some (pc + 3, lv, .int (Int16.ofInt n).toInt32 :: st) else none
  | .iload_n k => match pv_lk lv k with
    | some (.int x) => if len = 1 then some (pc + 1, lv, .int x :: st) else none
    | _ => none
  | .iload k => match pv_lk lv k with
    | some (.int x) => if len = 2 then some (pc + 2, lv, .int x :: st) else none
    | _ => none
  | .aload_n k => match pv_lk lv k with
    | some (.ref x) => if len = 1 then some (pc + 1, lv, .ref x :: st) else none
    | _ => none
  | .aload k => match pv_lk lv k with
    | some (.ref x) => if len = 2 then some (pc + 2, lv, .ref x :: st) else none
    | _ => none
  | .istore_n k => match st with
    | .int x :: r => if len = 1 ∧ (k : Nat) < nL then some (pc + 1, pv_put lv k x, r) else none
    | _ => none
  | .istore k => match st with
    | .int x :: r => if len = 2 ∧ k < nL then some (pc + 2, pv_put lv k x, r) else none
    | _ => none
  | .iinc k n => match pv_lk lv k with
    | some (.int x) => if len = 3 ∧ k < nL then some (pc + 3, pv_put lv k (x + Int32.ofInt n), st) else none
    | _ => none
  | .ineg => match st with
    | .int x :: r => if len = 1 then some (pc + 1, lv, .int (-x) :: r) else none
    | _ => none
  | .goto off => match sx_tgt pc off with
    | some t => if len = 3 then some (t, lv, st) else none
    | none => none
  | i => match st with
    | .int y :: .int x :: r => match pv_op i x y with
      | some z => if len = 1 then some (pc + 1, lv, .int z :: r) else none
      | none => none
    | _ => none
noncomputable def pv_run (R : List (List (Nat × Instr × Nat))) (nL : Nat) : Nat → Nat → List (Nat × Value) → List Value → Option pv_St
  | 0, pc, lv, st => some (pc, lv, st)
  | n + 1, pc, lv, st => match sx_row R pc with
    | some (_, i, len) => match pv_do nL pc i len lv st with
      | some (pc', lv', st') => pv_run R nL n pc' lv' st'
      | none => none
    | none => none
theorem pv_lk_mem : ∀ {lv : List (Nat × Value)} {i : Nat} {v : Value}, pv_lk lv i = some v → (i, v) ∈ lv
  | [], i, v, h => by simp [pv_lk] at h
  | q :: r, i, v, h => by
    simp only [pv_lk] at h
    split at h
    · rename_i hq
      cases h
      rw [← hq]
      exact List.mem_cons_self
    · exact List.mem_cons_of_mem _ (pv_lk_mem h)
section PV
variable {p : Program} {l : Launch} {e : Env} {R : Room} {s : State} {m : MethodId} {args : Array Value} {below : List Frame} {meth : Method} {c : Code} {Q : State → Prop} {H : Heap} {locs : List Loc} {nc ns pc nL : Nat} {cc : ByteArray} {ls : Array Slot}
theorem pv_op_ok {i : Instr} {x y z : Int32} {rest : List Value} (hx : p.tables.exec = Jvm.exec) (hb : c.code = cc) (hd : decode cc pc = .ok (i, 1)) (h : pv_op i x y = some z) (k : W p l e R s m args below meth c H locs nc ns Q (F0 m (pc + 1) ls (.int z :: rest))) : W p l e R s m args below meth c H locs nc ns Q (F0 m pc ls (.int y :: .int x :: rest)) := by
  unfold pv_op at h
  split at h
  · cases h; exact lv_iadd hx hb hd k
  · cases h; exact lv_isub hx hb hd k
  · cases h; exact lv_imul hx hb hd k
  · cases h; exact lv_iand hx hb hd k
  · cases h; exact lv_ixor hx hb hd k
  · split at h
    · cases h
    · rename_i hy; cases h; exact lv_idiv hx hb hd hy k
  · split at h
    · cases h
    · rename_i hy; cases h; exact lv_irem hx hb hd hy k
  · cases h
theorem pv_do_ok {i : Instr} {len : Nat} {lv : List (Nat × Value)} {st : List Value} {s' : pv_St} (hx : p.tables.exec = Jvm.exec) (hb : c.code = cc) (hd : decode cc pc = .ok (i, len)) (hl : lv_has ls nL lv) (h : pv_do nL pc i len lv st = some s')
    (k : ∀ ls', lv_has ls' nL s'.2.1 → W p l e R s m args below meth c H locs nc ns Q (F0 m s'.1 ls' s'.2.2)) : W p l e R s m args below meth c H locs nc ns Q (F0 m pc ls st) := by
  unfold pv_do at h
  split at h
  · split at h
    · rename_i hn; subst hn; cases h; exact lv_iconst hx hb hd rfl (k ls hl)
    · cases h
  · split at h
    · rename_i hn; subst hn; cases h; exact lv_bipush hx hb hd rfl (k ls hl)
    · cases h
  · split at h
    · rename_i hn; subst hn; cases h; exact lv_sipush hx hb hd rfl (k ls hl)
    · cases h
  · split at h
    · rename_i x hk
      split at h
      · rename_i hn; subst hn; cases h; exact lv_iload_n hx hb hd rfl (hl.2.2 _ (pv_lk_mem hk)) (k ls hl)
      · cases h
    · cases h
  · split at h
    · rename_i x hk
      split at h
      · rename_i hn; subst hn; cases h; exact lv_iload hx hb hd (hl.2.2 _ (pv_lk_mem hk)) (k ls hl)
      · cases h
    · cases h
  · split at h
    · rename_i x hk
      split at h
      · rename_i hn; subst hn; cases h; exact lv_aload_n hx hb hd rfl (hl.2.2 _ (pv_lk_mem hk)) (k ls hl)
      · cases h
    · cases h
  · split at h
    · rename_i x hk
      split at h
      · rename_i hn; subst hn; cases h; exact lv_aload hx hb hd (hl.2.2 _ (pv_lk_mem hk)) (k ls hl)
      · cases h
    · cases h
  · split at h
    · split at h
      · rename_i hn; obtain ⟨rfl, hn⟩ := hn; cases h; exact lv_istore_n hx hb hd rfl hl hn rfl (fun ls' hl' => k ls' hl')
      · cases h
    · cases h
  · split at h
    · split at h
      · rename_i hn; obtain ⟨rfl, hn⟩ := hn; cases h; exact lv_istore hx hb hd hl hn rfl (fun ls' hl' => k ls' hl')
      · cases h
    · cases h
  · split at h
    · rename_i x hk
      split at h
      · rename_i hn
        obtain ⟨rfl, hn⟩ := hn
        cases h
        obtain ⟨j, hj⟩ := List.mem_iff_getElem?.mp (pv_lk_mem hk)
        exact lv_iinc hx hb hd hl hj rfl hn rfl (fun ls' hl' => k ls' hl')
      · cases h
    · cases h
  · split at h
    · split at h
      · rename_i hn; subst hn; cases h; exact lv_ineg hx hb hd (k ls hl)
      · cases h
    · cases h
  · split at h
    · rename_i t ht
      split at h
      · rename_i hn; subst hn; cases h; exact lv_goto hx hb hd (sx_tgt_ok ht) (k ls hl)
      · cases h
    · cases h
  · split at h
    · split at h
      · rename_i z hz
        split at h
        · rename_i hn; subst hn; cases h; exact pv_op_ok hx hb hd hz (k ls hl)
        · cases h
      · cases h
    · cases h
/-- n steps -/
theorem pv_Ws {RW : List (List (Nat × Instr × Nat))} (hx : p.tables.exec = Jvm.exec) (hb : c.code = cc) (hR : ∀ g ∈ RW, ∀ q ∈ g, decode cc q.1 = .ok q.2) : ∀ (n : Nat) {pc : Nat} {ls : Array Slot} {lv : List (Nat × Value)} {st : List Value} {s' : pv_St}, pv_run RW nL n pc lv st = some s' → lv_has ls nL lv →
    (∀ ls', lv_has ls' nL s'.2.1 → W p l e R s m args below meth c H locs nc ns Q (F0 m s'.1 ls' s'.2.2)) → W p l e R s m args below meth c H locs nc ns Q (F0 m pc ls st)
  | 0, pc, ls, lv, st, s', h, hl, k => by
    simp only [pv_run] at h
    cases h
    exact k ls hl
  | n + 1, pc, ls, lv, st, s', h, hl, k => by
    simp only [pv_run] at h
    split at h
    · rename_i w i len hq
      obtain ⟨⟨g, hg, hm⟩, hpc⟩ := sx_row_ok hq
      have hd : decode cc w = .ok (i, len) := hR g hg (w, i, len) hm
      have hpc : w = pc := hpc
      rw [hpc] at hd
      split at h
      · rename_i pc1 lv1 st1 hs1
        exact pv_do_ok hx hb hd hl hs1 (fun ls' hl' => pv_Ws hx hb hR n h hl' k)
      · cases h
    · cases h
theorem pv_W {RW : List (List (Nat × Instr × Nat))} (hx : p.tables.exec = Jvm.exec) (hb : c.code = cc) (hR : ∀ g ∈ RW, ∀ q ∈ g, decode cc q.1 = .ok q.2) (n pc' : Nat) (lv' : List (Nat × Value)) (st' : List Value) {pc : Nat} {ls : Array Slot} {lv : List (Nat × Value)} {st : List Value} (h : pv_run RW nL n pc lv st = some (pc', lv', st')) (hl : lv_has ls nL lv)
    (k : ∀ ls', lv_has ls' nL lv' → W p l e R s m args below meth c H locs nc ns Q (F0 m pc' ls' st')) : W p l e R s m args below meth c H locs nc ns Q (F0 m pc ls st) := pv_Ws hx hb hR n h hl k
theorem pv_row {RW : List (List (Nat × Instr × Nat))} (hR : ∀ g ∈ RW, ∀ q ∈ g, decode cc q.1 = .ok q.2) {pc : Nat} {i : Instr} {len : Nat} (h : sx_row RW pc = some (pc, i, len)) : decode cc pc = .ok (i, len) := by
  obtain ⟨h1, -⟩ := sx_row_ok h
  obtain ⟨g, hg, hm⟩ := h1
  have h2 : decode cc (pc, i, len).1 = .ok (pc, i, len).2 := hR g hg (pc, i, len) hm
  generalize decode cc = f at h2 ⊢
  exact h2
theorem pv_icmp {own : String} {Ts : List Cond} {RW : List (List (Nat × Instr × Nat))} (hC : sx_Cx p s m args c cc nL own Ts) (hR : ∀ g ∈ RW, ∀ q ∈ g, decode cc q.1 = .ok q.2) (cd : ClassFile.Cond) (off : Int) (t : Nat) {pc : Nat} {x y : Int32} {rest : List Value} (h : sx_row RW pc = some (pc, .if_icmp cd off, 3)) (ht : sx_tgt pc off = some t)
    (kt : sx_holds cd x.toInt y.toInt → W p l e R s m args below meth c H locs nc ns Q (F0 m t ls rest)) (kf : sx_holds (sx_opp cd) x.toInt y.toInt → W p l e R s m args below meth c H locs nc ns Q (F0 m (pc + 3) ls rest)) : W p l e R s m args below meth c H locs nc ns Q (F0 m pc ls (.int y :: .int x :: rest)) :=
  sx_icmp_W hC (pv_row hR h) (sx_tgt_ok ht) kt kf
theorem pv_if {own : String} {Ts : List Cond} {RW : List (List (Nat × Instr × Nat))} (hC : sx_Cx p s m args c cc nL own Ts) (hR : ∀ g ∈ RW, ∀ q ∈ g, decode cc q.1 = .ok q.2) (cd : ClassFile.Cond) (off : Int) (t : Nat) {pc : Nat} {x : Int32} {rest : List Value} (h : sx_row RW pc = some (pc, .ifCond cd off, 3)) (ht : sx_tgt pc off = some t)
    (kt : sx_holds cd x.toInt 0 → W p l e R s m args below meth c H locs nc ns Q (F0 m t ls rest)) (kf : sx_holds (sx_opp cd) x.toInt 0 → W p l e R s m args below meth c H locs nc ns Q (F0 m (pc + 3) ls rest)) : W p l e R s m args below meth c H locs nc ns Q (F0 m pc ls (.int x :: rest)) :=
  sx_if_W hC (pv_row hR h) (sx_tgt_ok ht) kt kf
end PV
