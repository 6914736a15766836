/-! sx, what every frame knows of the tables, and how it moves into a callee -/
def sx_nest (w : Cond) : Bool := match w with
  | .fieldLinkNest .. => true
  | .methodLinkNest .. => true
  | _ => false
def sx_gw (w : Cond) : Bool := goodWord w || sx_nest w
theorem sx_gw_move {w : Cond} (hg : sx_gw w = true) {s U : State} (hW : s.WarmedH U.vm) {a a' : Array Value} (h : w.before a s = true) : w.before a' U = true := by
  rcases Bool.or_eq_true_iff.mp hg with hg | hg
  · exact word_at hW (good_of_word hg) h
  · unfold sx_nest at hg
    split at hg
    · exact va_Nw.use rfl (va_Nw.warmF hW (va_Nw.of rfl h))
    · exact va_Nw.use rfl (va_Nw.warmM hW (va_Nw.of rfl h))
    · cases hg
def sx_KB (TB : List Cond) (U : State) : Prop := ∀ w ∈ TB, ∀ a : Array Value, w.before a U = true
/-- classes of whose arrays words tell; static tables: class, field, its type, where the table lies -/
abbrev sx_Ao : Type := List String × List (String × String × String × Nat)
/-- a constant text: its bytes, by its letters -/
def sx_tb (tx : String) : List Int32 := tx.toList.map (fun c => Int32.ofNat c.toNat)
/-- what a row of ST is: a constant text of a class's pool, by the pool's place (k + 2); a static field that holds an object or null (2); a static boolean (1); else a static field that holds an object (0) -/
def sx_sk (d : String) : Nat := if d = "S126" then 128 else if d = "S119" then 121 else if d = "Z" then 1 else if d = "Ljava/util/function/BiFunction;" then 2 else 0
def sx_tx (a : Nat) (tx : String) (A : Nat → Prop) (U : State) (H : Heap) : Prop := va_O "java/lang/String" a A U H ∧ va_OF "java/lang/String" "coder" "B" (.int 0) a A U H ∧ ∃ V : Nat, va_OF "java/lang/String" "value" "[B" (.ref V) a A U H ∧ va_T .byte V (sx_tb tx).length (fun j => .int ((sx_tb tx).getD j 0)) A U H
def sx_ZS1 (z : String × String × String × Nat) (A : Nat → Prop) (U : State) : Prop := match sx_sk z.2.2.1 with
  | 0 => va_Z z.1 z.2.1 z.2.2.1 (.ref z.2.2.2) A U U.heap
  | 1 => va_Z z.1 z.2.1 z.2.2.1 (.int (Int32.ofNat z.2.2.2)) A U U.heap
  | 2 => va_Zq z.1 z.2.1 z.2.2.1 A U U.heap
  | k + 3 => vk_R z.1 (k + 1) z.2.1 z.2.2.2 U ∧ sx_tx z.2.2.2 z.2.1 A U U.heap
/-- static tables, constant texts -/
def sx_ZS (ST : List (String × String × String × Nat)) (b0 : sx_B) (U : State) : Prop := ∀ z ∈ ST, sx_ZS1 z b0.1 U
theorem sx_ZS_va {ST : List (String × String × String × Nat)} {b0 : sx_B} {U : State} (h : sx_ZS ST b0 U) {z : String × String × String × Nat} (hz : z ∈ ST) (hk : sx_sk z.2.2.1 = 0) : va_Z z.1 z.2.1 z.2.2.1 (.ref z.2.2.2) b0.1 U U.heap := by
  have := h z hz
  unfold sx_ZS1 at this
  rw [hk] at this
  exact this
theorem sx_ZS_bo {ST : List (String × String × String × Nat)} {b0 : sx_B} {U : State} (h : sx_ZS ST b0 U) {z : String × String × String × Nat} (hz : z ∈ ST) (hk : sx_sk z.2.2.1 = 1) : va_Z z.1 z.2.1 z.2.2.1 (.int (Int32.ofNat z.2.2.2)) b0.1 U U.heap := by
  have := h z hz
  unfold sx_ZS1 at this
  rw [hk] at this
  exact this
theorem sx_ZS_q {ST : List (String × String × String × Nat)} {b0 : sx_B} {U : State} (h : sx_ZS ST b0 U) {z : String × String × String × Nat} (hz : z ∈ ST) (hk : sx_sk z.2.2.1 = 2) : va_Zq z.1 z.2.1 z.2.2.1 b0.1 U U.heap := by
  have := h z hz
  unfold sx_ZS1 at this
  rw [hk] at this
  exact this
theorem sx_ZS_tx {ST : List (String × String × String × Nat)} {b0 : sx_B} {U : State} (h : sx_ZS ST b0 U) {z : String × String × String × Nat} (hz : z ∈ ST) {k : Nat} (hk : sx_sk z.2.2.1 = k + 3) : vk_R z.1 (k + 1) z.2.1 z.2.2.2 U ∧ sx_tx z.2.2.2 z.2.1 b0.1 U U.heap := by
  have := h z hz
  unfold sx_ZS1 at this
  rw [hk] at this
  exact this
theorem sx_tx_move {a : Nat} {tx : String} {A : Nat → Prop} {s U : State} {H H1 : Heap} (hvm : s.vm.Alike U.vm) (hq : ∀ q : Nat, q < H.size → ¬ A q → H1[q]? = H[q]?) (h : sx_tx a tx A s H) : sx_tx a tx A U H1 := by
  obtain ⟨h1, h2, V, h3, h4⟩ := h
  exact ⟨(va_O.moved hvm h1).kept hq, (va_OF.moved hvm h2).kept hq, V, (va_OF.moved hvm h3).kept hq, (va_T.moved hvm h4).kept hq⟩
theorem sx_ZS_move {ST : List (String × String × String × Nat)} {b0 : sx_B} {s U : State} (hW : s.WarmedH U.vm) (hq : ∀ q : Nat, q < s.heap.size → ¬ b0.1 q → U.heap[q]? = s.heap[q]?) (h : sx_ZS ST b0 s) : sx_ZS ST b0 U := fun z hz => by
  have h1 := h z hz
  unfold sx_ZS1 at h1 ⊢
  split at h1
  · exact (h1.moved hW.alike).kept hq
  · exact (h1.moved hW.alike).kept hq
  · exact (h1.moved hW.alike).kept hq
  · exact ⟨vk_R.warm hW h1.1, sx_tx_move hW.alike hq h1.2⟩
def sx_Ks (D : va_G) (cl : List vw_C) (AO : sx_Ao) (TB : List Cond) (U : State) : Prop := va_K D cl [] U ∧ (∀ C ∈ AO.1, va_AO C U) ∧ sx_KB TB U
theorem sx_Ks_move {D : va_G} {cl : List vw_C} {AO : sx_Ao} {TB : List Cond} (hg : ∀ w ∈ TB, sx_gw w = true) {s U : State} (hW : s.WarmedH U.vm) (h : sx_Ks D cl AO TB s) : sx_Ks D cl AO TB U :=
  ⟨va_K.moved hW.alike h.1, fun C hC => va_AO.moved hW.alike (h.2.1 C hC), fun w hw a => sx_gw_move (hg w hw) hW (h.2.2 w hw a)⟩
theorem sx_Ks_calling {D : va_G} {cl : List vw_C} {AO : sx_Ao} {TB : List Cond} (hg : ∀ w ∈ TB, sx_gw w = true) {U : State} {g : JFrame} {mk : MethodId} {a : Array Value} (h : sx_Ks D cl AO TB U) : sx_Ks D cl AO TB (U.calling g mk a) :=
  sx_Ks_move (U := U.calling g mk a) hg (State.WarmedH.refl U) h
theorem sx_H_calling {D : va_G} {cl : List vw_C} {RT : Nat → Option sx_Rg} {b0 : sx_B} {Sg : Nat → Option Nat} {U : State} {H : Heap} {g : JFrame} {mk : MethodId} {a : Array Value} (h : sx_H D cl RT b0 Sg U H) : sx_H D cl RT b0 Sg (U.calling g mk a) H :=
  sx_H_moved (u := U) (U := U.calling g mk a) (Vm.Alike.refl U.vm) h
/-! returns: the kind of what comes back: 0 int, 1 boolean, 3 reference, 4 nothing -/
def sx_rk (ret : Option FieldType) : Nat := match ret with
  | some .int => 0
  | some .boolean => 1
  | some .long => 2
  | some (.object _) => 3
  | some (.array _) => 3
  | none => 4
  | _ => 5
def sx_rins (i : Instr) : Nat := match i with
  | .ireturn => 0
  | .lreturn => 2
  | .areturn => 3
  | .return_ => 4
  | _ => 9
/-- what a return may hand over, by the instruction and the method's type -/
def sx_rv (ret : Option FieldType) (i : Instr) (vo : Option Value) : Prop :=
  (i = .ireturn ∧ ret = some .int ∧ ∃ x : Int32, vo = some (.int x)) ∨ (i = .ireturn ∧ ret = some .boolean ∧ (vo = some (.int 0) ∨ vo = some (.int 1))) ∨ (i = .areturn ∧ ((∃ n, ret = some (.object n)) ∨ ∃ t, ret = some (.array t)) ∧ (vo = some .null ∨ ∃ q, vo = some (.ref q))) ∨ (i = .return_ ∧ ret = none ∧ vo = none) ∨ (i = .lreturn ∧ ret = some .long ∧ ∃ x : Int64, vo = some (.long x))
section SX13
variable {p : Program} {l : Launch} {e : Env} {R : Room} {s : State} {m : MethodId} {args : Array Value} {below : List Frame} {meth : Method} {c : Code} {H : Heap} {locs : List Loc} {nc ns pc : Nat} {cc : ByteArray} {ls : Array Slot}
/-- a method's end, whatever it hands over -/
theorem sx_ret {ret : Option FieldType} {i : Instr} {vo : Option Value} {Qc : Array Value → State → Outcome → State → Prop} {free : Addr → Prop} {mc ms : Nat} (hx : p.tables.exec = Jvm.exec) (hb : c.code = cc) (hr : meth.sig.returnType = ret) (hlocks : meth.locks = false) (hv : sx_rv ret i vo) (hc : nc ≤ mc) (hs : ns ≤ ms)
    (hq : ∀ t : State, t.heap = H → s.WarmedH t.vm → Qc args s (.returned vo) t) (hf : ∀ q ∈ locs, free q.base) (hd : decode cc pc = .ok (i, 1)) : W p l e R s m args below meth c H locs nc ns (MQ below Qc args s mc ms free) (F0 m pc ls vo.toList) := by
  refine W.widen hc hs ?_
  rcases hv with ⟨rfl, rfl, x, rfl⟩ | ⟨rfl, rfl, rfl | rfl⟩ | ⟨rfl, hrt, hv⟩ | ⟨rfl, rfl, rfl⟩ | ⟨rfl, rfl, x, rfl⟩
  · exact W.iret hx hb hr hq hf hd
  · exact W.zret hx hb hr sx_nb0.1 hq hf hd
  · exact W.zret hx hb hr sx_nb1.1 hq hf hd
  · rcases hv with rfl | ⟨q, rfl⟩
    · rcases hrt with ⟨n, rfl⟩ | ⟨t, rfl⟩
      · exact W.aret (v := .null) hx hb hr (Or.inl ⟨n, rfl⟩) (Or.inl rfl) hq hf hd
      · exact W.aret (v := .null) hx hb hr (Or.inr ⟨t, rfl⟩) (Or.inl rfl) hq hf hd
    · rcases hrt with ⟨n, rfl⟩ | ⟨t, rfl⟩
      · exact W.aret (v := .ref q) hx hb hr (Or.inl ⟨n, rfl⟩) (Or.inr ⟨q, rfl⟩) hq hf hd
      · exact W.aret (v := .ref q) hx hb hr (Or.inr ⟨t, rfl⟩) (Or.inr ⟨q, rfl⟩) hq hf hd
  · exact W.vret hx hb hr hq hf hd
  · exact W.lret hx hb hr hq hf hd
end SX13
/-- the abstract value that a return hands over -/
def sx_rav (E : List sx_Ty) (C : List sx_LF) (ret : Option FieldType) (i : Instr) (S : List sx_AV) : Option (Option sx_AV) := match sx_rins i, S with
  | 4, [] => if sx_rk ret = 4 then some none else none
  | 0, [a] => if sx_rk ret = 0 then (if a.1 = 0 then some (some a) else none) else if sx_rk ret = 1 then (if sx_jt E C 1 a then some (some a) else none) else none
  | 3, [a] => if sx_rk ret = 3 then (if a.1 = 2 ∨ a.1 = 3 then some (some a) else none) else none
  | 2, [a] => if sx_rk ret = 2 then (if a.1 = 1 then some (some a) else none) else none
  | _, _ => none
def sx_vo (ρ : List Value) (r : Option sx_AV) (vo : Option Value) : Prop := match r with
  | none => vo = none
  | some a => ∃ v, vo = some v ∧ sx_av ρ a v
theorem sx_rav_ok {Sg : Nat → Option Nat} {E : List sx_Ty} {C : List sx_LF} {ρ : List Value} (hE : sx_env Sg E ρ) (hC : sx_cs C ρ) {ret : Option FieldType} {i : Instr} {S : List sx_AV} {r : Option sx_AV} {stk : List Value} (h : sx_rav E C ret i S = some r) (hS : sx_stk ρ S stk) : ∃ vo, stk = vo.toList ∧ sx_vo ρ r vo ∧ sx_rv ret i vo := by
  unfold sx_rav at h
  split at h
  · rename_i hi
    split at h
    · rename_i hk
      cases h
      obtain rfl := sx_stk_nil hS
      have h1 : i = .return_ := by
        unfold sx_rins at hi
        split at hi <;> first | rfl | cases hi
      have h2 : ret = none := by
        unfold sx_rk at hk
        split at hk <;> first | rfl | cases hk
      exact ⟨none, rfl, rfl, Or.inr (Or.inr (Or.inr (Or.inl ⟨h1, h2, rfl⟩)))⟩
    · cases h
  · rename_i a hi
    have h1 : i = .ireturn := by
      unfold sx_rins at hi
      split at hi <;> first | rfl | cases hi
    obtain ⟨v, t1, rfl, k1, k2⟩ := sx_stk_cons hS
    obtain rfl := sx_stk_nil k2
    split at h
    · rename_i hk
      have h2 : ret = some .int := by
        unfold sx_rk at hk
        split at hk <;> first | rfl | cases hk
      split at h
      · rename_i ha
        cases h
        obtain ⟨tg, f⟩ := a
        have ha : tg = 0 := ha
        subst ha
        obtain ⟨x, rfl, hf⟩ := sx_av_int k1
        exact ⟨some (.int x), rfl, ⟨_, rfl, k1⟩, Or.inl ⟨h1, h2, x, rfl⟩⟩
      · cases h
    · split at h
      · rename_i hk
        have h2 : ret = some .boolean := by
          unfold sx_rk at hk
          split at hk <;> first | rfl | cases hk
        split at h
        · rename_i ha
          cases h
          have ha2 := ha
          unfold sx_jt at ha2
          rw [if_neg (by decide), if_pos rfl] at ha2
          simp at ha2
          obtain ⟨tg, f⟩ := a
          have ht : tg = 0 := ha2.1.1
          subst ht
          obtain ⟨x, rfl, hf⟩ := sx_av_int k1
          have m1 := sx_ge_ok hE hC hf ha2.1.2
          have m2 := sx_ge_ok hE hC (sx_sub_ok (sx_const_ok 1) hf) ha2.2
          have hx : x = 0 ∨ x = 1 := by
            rcases (show x.toInt = 0 ∨ x.toInt = 1 by omega) with h | h
            · exact Or.inl (Int32.toInt_inj.mp (by rw [h]; decide))
            · exact Or.inr (Int32.toInt_inj.mp (by rw [h]; decide))
          refine ⟨some (.int x), rfl, ⟨_, rfl, k1⟩, Or.inr (Or.inl ⟨h1, h2, ?_⟩)⟩
          rcases hx with rfl | rfl
          · exact Or.inl rfl
          · exact Or.inr rfl
        · cases h
      · cases h
  · rename_i a hi
    have h1 : i = .areturn := by
      unfold sx_rins at hi
      split at hi <;> first | rfl | cases hi
    obtain ⟨v, t1, rfl, k1, k2⟩ := sx_stk_cons hS
    obtain rfl := sx_stk_nil k2
    split at h
    · rename_i hk
      have h2 : (∃ n, ret = some (.object n)) ∨ ∃ t, ret = some (.array t) := by
        unfold sx_rk at hk
        split at hk <;> first | exact Or.inl ⟨_, rfl⟩ | exact Or.inr ⟨_, rfl⟩ | cases hk
      split at h
      · rename_i ha
        cases h
        obtain ⟨tg, f⟩ := a
        rcases ha with ha | ha
        · have ha : tg = 2 := ha
          subst ha
          obtain ⟨-, q, rfl⟩ := sx_av_ref k1
          exact ⟨some (.ref q), rfl, ⟨_, rfl, k1⟩, Or.inr (Or.inr (Or.inl ⟨h1, h2, Or.inr ⟨q, rfl⟩⟩))⟩
        · have ha : tg = 3 := ha
          subst ha
          obtain rfl := sx_av_null k1
          exact ⟨some .null, rfl, ⟨_, rfl, k1⟩, Or.inr (Or.inr (Or.inl ⟨h1, h2, Or.inl rfl⟩))⟩
      · cases h
    · cases h
  · rename_i a hi
    have h1 : i = .lreturn := by
      unfold sx_rins at hi
      split at hi <;> first | rfl | cases hi
    obtain ⟨v, t1, rfl, k1, k2⟩ := sx_stk_cons hS
    obtain rfl := sx_stk_nil k2
    split at h
    · rename_i hk
      have h2 : ret = some .long := by
        unfold sx_rk at hk
        split at hk <;> first | rfl | cases hk
      split at h
      · rename_i ha
        cases h
        obtain ⟨tg, f⟩ := a
        have ha : tg = 1 := ha
        subst ha
        obtain ⟨x, rfl, hf⟩ := sx_av_long k1
        exact ⟨some (.long x), rfl, ⟨_, rfl, k1⟩, Or.inr (Or.inr (Or.inr (Or.inr ⟨h1, h2, x, rfl⟩)))⟩
      · cases h
    · cases h
  · cases h
