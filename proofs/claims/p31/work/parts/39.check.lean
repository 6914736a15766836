/-! are the printed tables those of the Statement: a checker over the words by place, and its truth -/
noncomputable def zTB : List Cond := lw_tbl.filter sx_gw
def zget (q : Nat × Nat) : Option Cond := match q.1 with
  | 0 => (k2_sels lw_privs)[q.2]?
  | 1 => tables_1_1[q.2]?
  | 2 => tables_1_2[q.2]?
  | 3 => tables_1_3[q.2]?
  | 4 => tables_1_4[q.2]?
  | 5 => tables_1_5[q.2]?
  | 6 => tables_1_6[q.2]?
  | 7 => tables_1_7[q.2]?
  | 8 => tables_1_8[q.2]?
  | 9 => tables_1_9[q.2]?
  | _ => none
def zw (q : Nat × Nat) (w : Cond) : Bool := decide (zget q = some w) && sx_gw w
theorem zget_mem {q : Nat × Nat} {w : Cond} (h : zget q = some w) : w ∈ lw_tbl := by
  unfold zget at h
  unfold lw_tbl tables_1
  simp only [List.mem_append]
  split at h
  · exact Or.inl (List.mem_of_getElem? h)
  · exact Or.inr (Or.inl (List.mem_of_getElem? h))
  · exact Or.inr (Or.inr (Or.inl (List.mem_of_getElem? h)))
  · exact Or.inr (Or.inr (Or.inr (Or.inl (List.mem_of_getElem? h))))
  · exact Or.inr (Or.inr (Or.inr (Or.inr (Or.inl (List.mem_of_getElem? h)))))
  · exact Or.inr (Or.inr (Or.inr (Or.inr (Or.inr (Or.inl (List.mem_of_getElem? h))))))
  · exact Or.inr (Or.inr (Or.inr (Or.inr (Or.inr (Or.inr (Or.inl (List.mem_of_getElem? h)))))))
  · exact Or.inr (Or.inr (Or.inr (Or.inr (Or.inr (Or.inr (Or.inr (Or.inl (List.mem_of_getElem? h))))))))
  · exact Or.inr (Or.inr (Or.inr (Or.inr (Or.inr (Or.inr (Or.inr (Or.inr (Or.inl (List.mem_of_getElem? h)))))))))
  · exact Or.inr (Or.inr (Or.inr (Or.inr (Or.inr (Or.inr (Or.inr (Or.inr (Or.inr (List.mem_of_getElem? h)))))))))
  · cases h
theorem zw_ok {q : Nat × Nat} {w : Cond} (h : zw q w = true) : w ∈ zTB := by
  unfold zw at h
  simp only [Bool.and_eq_true, decide_eq_true_eq] at h
  exact List.mem_filter.mpr ⟨zget_mem h.1, h.2⟩
section SZ1
variable {α β : Type}
def zk2 (f : α → β → Bool) : List α → List β → Bool
  | [], [] => true
  | a :: l, b :: m => f a b && zk2 f l m
  | _, _ => false
theorem zk2_ok {f : α → β → Bool} : ∀ {l : List α} {m : List β}, zk2 f l m = true → ∀ a ∈ l, ∃ b, f a b = true
  | [], _, _, a, ha => by simp at ha
  | a :: l, [], h, _, _ => by simp [zk2] at h
  | a :: l, b :: m, h, x, hx => by
    simp only [zk2, Bool.and_eq_true] at h
    rcases List.mem_cons.mp hx with rfl | hx
    · exact ⟨b, h.1⟩
    · exact zk2_ok h.2 x hx
end SZ1
def zkJ (j : Nat) (ty : FieldType) : Bool := match j, ty with
  | 0, .int => true
  | 1, .boolean => true
  | 2, .long => true
  | 3, .object _ => true
  | 3, .array _ => true
  | _, _ => false
theorem zkJ_ok {j : Nat} {ty : FieldType} (h : zkJ j ty = true) : sx_jc j ty := by
  unfold zkJ at h
  split at h
  · exact Or.inl ⟨rfl, rfl⟩
  · exact Or.inr (Or.inl ⟨rfl, rfl⟩)
  · exact Or.inr (Or.inr (Or.inl ⟨rfl, rfl⟩))
  · exact Or.inr (Or.inr (Or.inr ⟨rfl, Or.inl ⟨_, rfl⟩⟩))
  · exact Or.inr (Or.inr (Or.inr ⟨rfl, Or.inr ⟨_, rfl⟩⟩))
  · cases h
def zkF (cl : List vw_C) (own host : String) (q : sx_Fl) (p : Nat × Nat) : Bool := match cl[q.2.1]? with
  | some r => decide (q.2.2.1 < r.2.2) && decide ((r.2.1 q.2.2.1).1 = r.1) && (match parseFieldDescriptor (r.2.1 q.2.2.1).2.2.1 with
      | some ty => zkJ q.2.2.2.1 ty
      | none => false) &&
      (!(decide (q.2.2.2.2 = 0)) || !(r.2.1 q.2.2.1).2.2.2) && (!(decide (q.2.2.2.2 = 1)) || ((r.2.1 q.2.2.1).2.2.2 && decide (r.1 = own) && zw p (.fieldLink own q.1 r.1 (r.2.1 q.2.2.1).2.1 (r.2.1 q.2.2.1).2.2.1))) &&
      (zw p (.fieldLink own q.1 r.1 (r.2.1 q.2.2.1).2.1 (r.2.1 q.2.2.1).2.2.1) || zw p (.fieldLinkNest own q.1 r.1 (r.2.1 q.2.2.1).2.1 (r.2.1 q.2.2.1).2.2.1 host))
  | none => false
section SZ2
variable {cl : List vw_C} {own host : String} {args : Array Value} {s : State}
theorem zkF_ok (hts : ∀ w ∈ zTB, w.before args s = true) {q : sx_Fl} {p : Nat × Nat} (h : zkF cl own host q p = true) : sx_flk cl own args s q := by
  unfold zkF at h
  split at h
  · rename_i r hr
    simp only [Bool.and_eq_true, Bool.or_eq_true, decide_eq_true_eq, Bool.not_eq_true', decide_eq_false_iff_not] at h
    obtain ⟨⟨⟨⟨⟨h1, h2⟩, h3⟩, h4⟩, h5⟩, h6⟩ := h
    refine ⟨r, hr, h1, h2, ?_, fun h0 => ?_, fun h0 => ?_, ?_⟩
    · split at h3
      · rename_i ty hty
        exact ⟨ty, hty, zkJ_ok h3⟩
      · cases h3
    · rcases h4 with h4 | h4
      · exact absurd h0 h4
      · exact h4
    · rcases h5 with h5 | h5
      · exact absurd h0 h5
      · exact ⟨h5.1.1, h5.1.2, hts _ (zw_ok h5.2)⟩
    · rcases h6 with h6 | h6
      · exact Or.inl (hts _ (zw_ok h6))
      · exact Or.inr ⟨host, hts _ (zw_ok h6)⟩
  · cases h
def zkN (cl : List vw_C) (own : String) (q : Nat × Nat × Nat) (p : (Nat × Nat) × (Nat × Nat) × (Nat × Nat)) : Bool := match cl[q.2.1]? with
  | some r => zw p.1 (.classLink own q.1 r.1) && zw p.2.1 (.instantiable r.1 q.2.2) && zw p.2.2 (.initialized r.1)
  | none => false
theorem zkN_ok (hts : ∀ w ∈ zTB, w.before args s = true) {q : Nat × Nat × Nat} {p : (Nat × Nat) × (Nat × Nat) × (Nat × Nat)} (h : zkN cl own q p = true) : sx_nlk cl own args s q := by
  unfold zkN at h
  split at h
  · rename_i r hr
    simp only [Bool.and_eq_true] at h
    exact ⟨r, hr, hts _ (zw_ok h.1.1), hts _ (zw_ok h.1.2), hts _ (zw_ok h.2)⟩
  · cases h
def zkA (cl : List vw_C) (AO : List String) (own : String) (q : Nat × Nat) (p : Nat × Nat) : Bool := match cl[q.2]? with
  | some r => zw p (.classLink own q.1 r.1) && decide (r.1 ∈ AO)
  | none => false
theorem zkA_ok {AO : List String} (hts : ∀ w ∈ zTB, w.before args s = true) (hao : ∀ C ∈ AO, va_AO C s) {q : Nat × Nat} {p : Nat × Nat} (h : zkA cl AO own q p = true) : sx_alk cl own args s q := by
  unfold zkA at h
  split at h
  · rename_i r hr
    simp only [Bool.and_eq_true, decide_eq_true_eq] at h
    exact ⟨r, hr, hts _ (zw_ok h.1), hao _ h.2⟩
  · cases h
/-- places of: the class is initialized, the link, static or not, selects, the code -/
abbrev zQ5 : Type := (Nat × Nat) × (Nat × Nat) × (Nat × Nat) × (Nat × Nat) × (Nat × Nat)
def zkY (own host : String) (y : MethodName) (q : sx_Ml) (p : zQ5) : Bool :=
  decide (y.cls ≠ "java/lang/invoke/MethodHandle") && decide (y.cls ≠ "java/lang/invoke/VarHandle") && decide ((parseMethodDescriptor y.desc).map (fun d => d.parameters.length) = some q.2.2.2) && zw p.1 (.initialized y.cls) &&
  (zw p.2.1 (.methodLink own q.1 y) || zw p.2.1 (.methodLinkNest own q.1 y host)) &&
  (match q.2.1 with
    | 0 => zw p.2.2.1 (.instanceMethod y) && zw p.2.2.2.1 (.selects y.cls y y)
    | 1 => zw p.2.2.1 (.static y)
    | 2 => zw p.2.2.1 (.instanceMethod y) && decide (y.name = "<init>")
    | _ => false)
theorem zkY_ok (hts : ∀ w ∈ zTB, w.before args s = true) {y : MethodName} {q : sx_Ml} {p : zQ5} (h : zkY own host y q p = true) : sx_mlk own args s y q := by
  unfold zkY at h
  simp only [Bool.and_eq_true, Bool.or_eq_true, decide_eq_true_eq] at h
  obtain ⟨⟨⟨⟨⟨h1, h2⟩, h3⟩, h4⟩, h5⟩, h6⟩ := h
  refine ⟨⟨h1, h2⟩, h3, hts _ (zw_ok h4), ?_, ?_⟩
  · rcases h5 with h5 | h5
    · exact Or.inl (hts _ (zw_ok h5))
    · exact Or.inr ⟨host, hts _ (zw_ok h5)⟩
  · split at h6
    · rename_i e
      simp only [Bool.and_eq_true] at h6
      exact Or.inl ⟨e, hts _ (zw_ok h6.1), hts _ (zw_ok h6.2)⟩
    · rename_i e
      exact Or.inr (Or.inl ⟨e, hts _ (zw_ok h6)⟩)
    · rename_i e
      simp only [Bool.and_eq_true, decide_eq_true_eq] at h6
      exact Or.inr (Or.inr ⟨e, hts _ (zw_ok h6.1), h6.2⟩)
    · cases h6
noncomputable def zkM (MT : List (List sx_Me)) (own host : String) (q : sx_Ml) (p : zQ5) : Bool := match sx_at2 MT q.2.2.1 with
  | some M => zkY own host M.1.1 q p && !(Nat.beq M.2.2.1.1 13)
  | none => false
theorem zkM_ok {MT : List (List sx_Me)} (hcd : ∀ M ∈ MT.flatten, M.2.2.1.1 = 13 ∨ Cond.code M.1.1 M.1.2.1 M.1.2.2.1 M.1.2.2.2 ∈ zTB) (hts : ∀ w ∈ zTB, w.before args s = true) {q : sx_Ml} {p : zQ5} (h : zkM MT own host q p = true) : ∀ M, sx_at2 MT q.2.2.1 = some M → sx_mlk own args s M.1.1 q ∧ Cond.code M.1.1 M.1.2.1 M.1.2.2.1 M.1.2.2.2 ∈ zTB := by
  intro M hM
  unfold zkM at h
  rw [hM] at h
  simp only [Bool.and_eq_true] at h
  refine ⟨zkY_ok hts h.1, ?_⟩
  rcases hcd M (sx_at2_mem hM) with h13 | h13
  · have h2 := h.2
    rw [h13] at h2
    cases h2
  · exact h13
end SZ2
abbrev zPl : Type := List (Nat × Nat) × List (Nat × Nat) × List (Nat × Nat) × List ((Nat × Nat) × (Nat × Nat) × (Nat × Nat)) × List (Nat × Nat) × List zQ5 × List (Nat × Nat) × List (Nat × Nat)
noncomputable def zkD (cl : List vw_C) (AO : sx_Ao) (MT : List (List sx_Me)) (ob : (Nat × Nat) × (Nat × Nat)) (ac : (Nat × Nat) × (Nat × Nat) × (Nat × Nat)) (d : sx_Da) (host : String) (P : zPl) : Bool :=
  zk2 (fun q p => zw p (.constant d.1 q.1 (Int32.ofInt q.2))) d.2.1.1 P.1 && zk2 (fun q p => zw p (.constantLong d.1 q.1 (Int64.ofInt q.2))) d.2.1.2.1 P.2.1 && zk2 (zkF cl d.1 host) d.2.1.2.2.1 P.2.2.1 &&
  zk2 (zkN cl d.1) d.2.1.2.2.2.1 P.2.2.2.1 && zk2 (zkA cl AO.1 d.1) d.2.1.2.2.2.2 P.2.2.2.2.1 && zk2 (zkM MT d.1 host) d.2.2.1 P.2.2.2.2.2.1 &&
  zk2 (fun j p => zw p (.methodLink d.1 j Lib.objectInit)) d.2.2.2.1 P.2.2.2.2.2.2.1 && (zw ob.1 (.instanceMethod Lib.objectInit) && zw ob.2 (.code Lib.objectInit ⟨#[0xb1]⟩ 1 none)) &&
  zk2 (fun j p => zw p (.methodLink d.1 j arraycopyName)) d.2.2.2.2 P.2.2.2.2.2.2.2 && (zw ac.1 (.native arraycopyName) && zw ac.2.1 (.static arraycopyName) && zw ac.2.2 (.initialized "java/lang/System"))
theorem zkD_ok {cl : List vw_C} {AO : sx_Ao} {MT : List (List sx_Me)} {ob : (Nat × Nat) × (Nat × Nat)} {ac : (Nat × Nat) × (Nat × Nat) × (Nat × Nat)} {d : sx_Da} {host : String} {P : zPl} (hcd : ∀ M ∈ MT.flatten, M.2.2.1.1 = 13 ∨ Cond.code M.1.1 M.1.2.1 M.1.2.2.1 M.1.2.2.2 ∈ zTB) (h : zkD cl AO MT ob ac d host P = true) : sx_daok cl AO zTB MT d := by
  unfold zkD at h
  simp only [Bool.and_eq_true] at h
  obtain ⟨⟨⟨⟨⟨⟨⟨⟨⟨h1, h2⟩, h3⟩, h4⟩, h5⟩, h6⟩, h7⟩, h8⟩, h9⟩, h10⟩ := h
  intro args s hts hao
  refine ⟨⟨fun q hq => ?_, fun q hq => ?_, fun q hq => ?_, fun q hq => ?_, fun q hq => ?_⟩, fun q hq => ?_, fun j hj => ?_, fun j hj => ?_⟩
  · obtain ⟨p, hp⟩ := zk2_ok h1 q hq
    exact hts _ (zw_ok hp)
  · obtain ⟨p, hp⟩ := zk2_ok h2 q hq
    exact hts _ (zw_ok hp)
  · obtain ⟨p, hp⟩ := zk2_ok h3 q hq
    exact zkF_ok hts hp
  · obtain ⟨p, hp⟩ := zk2_ok h4 q hq
    exact zkN_ok hts hp
  · obtain ⟨p, hp⟩ := zk2_ok h5 q hq
    exact zkA_ok hts hao hp
  · obtain ⟨p, hp⟩ := zk2_ok h6 q hq
    exact zkM_ok hcd hts hp
  · obtain ⟨p, hp⟩ := zk2_ok h7 j hj
    exact ⟨hts _ (zw_ok hp), hts _ (zw_ok h8.1), hts _ (zw_ok h8.2)⟩
  · obtain ⟨p, hp⟩ := zk2_ok h9 j hj
    exact ⟨hts _ (zw_ok hp), hts _ (zw_ok h10.1.1), hts _ (zw_ok h10.1.2), hts _ (zw_ok h10.2)⟩
theorem zcode_mem {q : Nat × Nat} {y : MethodName} {b : ByteArray} {n : Nat} {r : Option FieldType} (h : zget q = some (.code y b n r)) (hg : sx_gw (.code y b n r) = true) : Cond.code y b n r ∈ zTB := List.mem_filter.mpr ⟨zget_mem h, hg⟩
/-! methods: their code is decoded rightly -/
def zkMe (cl : List vw_C) (CDs : List sx_Da) (M : sx_Me) : Bool :=
  plainFor M.1.1 && (!M.2.2.1.2.1 || decide (M.1.1.name = "<init>")) &&
  (match CDs[M.2.2.1.1]? with
    | some d => decide (d.1 = M.1.1.cls)
    | none => true) &&
  (match cl[M.2.2.1.2.2.2.2]? with
    | some r => decide (r.1 = M.1.1.cls)
    | none => true)
theorem zkMe_ok {cl : List vw_C} {CDs : List sx_Da} {M : sx_Me} (h1 : zkDe M.1.2.1 M.2.1 = true) (h : zkMe cl CDs M = true) : sx_meok cl CDs M := by
  unfold zkMe at h
  simp only [Bool.and_eq_true, Bool.or_eq_true, Bool.not_eq_true', decide_eq_true_eq] at h
  obtain ⟨⟨⟨h2, h3⟩, h4⟩, h5⟩ := h
  unfold zkDe at h1
  refine ⟨fun c hc q hq => ?_, h2, fun hi => ?_, fun d hd => ?_, fun r hr => ?_⟩
  · exact of_decide_eq_true (List.all_eq_true.mp (List.all_eq_true.mp h1 c hc) q hq)
  · rcases h3 with h3 | h3
    · rw [hi] at h3; cases h3
    · exact h3
  · rw [hd] at h4
    exact of_decide_eq_true h4
  · rw [hr] at h5
    exact of_decide_eq_true h5
/-! classes: how their fields lie -/
def zkC (r : vw_C) (ps : List (Nat × Nat)) : Bool := zk2 (fun w p => zw p w) (u_ws r.1 r.2.1 r.2.2) ps && decide (∀ a, a < r.2.2 → ∀ b, b < r.2.2 → a ≠ b → (r.2.1 a).2.1 ≠ (r.2.1 b).2.1) && (List.range r.2.2).all (fun k => (parseFieldDescriptor (r.2.1 k).2.2.1).isSome)
theorem zkC_ok {r : vw_C} {ps : List (Nat × Nat)} (h : zkC r ps = true) : (∀ w ∈ u_ws r.1 r.2.1 r.2.2, w ∈ zTB) ∧ (∀ a, a < r.2.2 → ∀ b, b < r.2.2 → a ≠ b → (r.2.1 a).2.1 ≠ (r.2.1 b).2.1) ∧ ∃ ty : Nat → FieldType, ∀ k, k < r.2.2 → parseFieldDescriptor (r.2.1 k).2.2.1 = some (ty k) := by
  unfold zkC at h
  simp only [Bool.and_eq_true, decide_eq_true_eq] at h
  obtain ⟨⟨h1, h2⟩, h3⟩ := h
  refine ⟨fun w hw => ?_, h2, fun k => (parseFieldDescriptor (r.2.1 k).2.2.1).getD .int, fun k hk => ?_⟩
  · obtain ⟨p, hp⟩ := zk2_ok h1 w hw
    exact zw_ok hp
  · have := List.all_eq_true.mp h3 k (List.mem_range.mpr hk)
    obtain ⟨ty, hty⟩ := Option.isSome_iff_exists.mp this
    show _ = some ((parseFieldDescriptor (r.2.1 k).2.2.1).getD .int)
    rw [hty]; rfl
def zkJs (r : vw_C) (js : List Nat) : Bool := decide (js.length = r.2.2) && (List.range r.2.2).all (fun k => match js[k]?, parseFieldDescriptor (r.2.1 k).2.2.1 with
  | some j, some ty => zkJ j ty
  | _, _ => false)
theorem zkJs_ok {r : vw_C} {js : List Nat} (h : zkJs r js = true) : js.length = r.2.2 ∧ ∀ k j, js[k]? = some j → ∃ ty, parseFieldDescriptor (r.2.1 k).2.2.1 = some ty ∧ sx_jc j ty := by
  unfold zkJs at h
  simp only [Bool.and_eq_true, decide_eq_true_eq] at h
  refine ⟨h.1, fun k j hk => ?_⟩
  have hlt : k < r.2.2 := by rw [← h.1]; exact (List.getElem?_eq_some_iff.mp hk).1
  have := List.all_eq_true.mp h.2 k (List.mem_range.mpr hlt)
  rw [hk] at this
  split at this
  · rename_i j' ty e1 e2
    cases e1
    exact ⟨ty, e2, zkJ_ok this⟩
  · cases this
