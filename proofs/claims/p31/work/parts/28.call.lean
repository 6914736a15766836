/-! sx, calls of a method with a contract that stands on its own code alone -/
/-- a call's place in a pool: (index, kind: 0 virtual, 1 static, 2 constructor; method; parameters) -/
abbrev sx_Ml : Type := Nat × Nat × Nat × Nat
def sx_mlk (own : String) (args : Array Value) (s : State) (y : MethodName) (q : sx_Ml) : Prop :=
  (y.cls ≠ "java/lang/invoke/MethodHandle" ∧ y.cls ≠ "java/lang/invoke/VarHandle") ∧ (parseMethodDescriptor y.desc).map (fun d => d.parameters.length) = some q.2.2.2 ∧ (Cond.initialized y.cls).before args s = true ∧
  ((Cond.methodLink own q.1 y).before args s = true ∨ ∃ host, (Cond.methodLinkNest own q.1 y host).before args s = true) ∧
  ((q.2.1 = 0 ∧ (Cond.instanceMethod y).before args s = true ∧ (Cond.selects y.cls y y).before args s = true) ∨ (q.2.1 = 1 ∧ (Cond.static y).before args s = true) ∨ (q.2.1 = 2 ∧ (Cond.instanceMethod y).before args s = true ∧ y.name = "<init>"))
def sx_inv (kind idx : Nat) : Instr := if kind = 0 then .invokevirtual idx else if kind = 1 then .invokestatic idx else .invokespecial idx
section SX14
variable {p : Program} {l : Launch} {e : Env} {R : Room} {s : State} {m : MethodId} {args : Array Value} {below : List Frame} {meth : Method} {c : Code} {H : Heap} {locs : List Loc} {nc ns pc nL : Nat} {cc : ByteArray} {ls : Array Slot} {own : String} {Ts : List Cond}
theorem sx_len_of {d : String} {n : Nat} (h : (parseMethodDescriptor d).map (fun d => d.parameters.length) = some n) : ∀ sig, parseMethodDescriptor d = some sig → n = sig.parameters.length := fun sig hs => by
  rw [hs] at h
  exact (Option.some.inj h).symm
/-- the call, run: 'vs' are the receiver, if there is one, and the arguments -/
theorem sx_run {q : sx_Ml} {y : MethodName} {bytes : ByteArray} {maxL : Nat} {ret : Option FieldType} {rm : Room} {Pc : Array Value → State → Prop} {Qc : Array Value → State → Outcome → State → Prop} {mc ms : Nat} {free : Addr → Prop} {vs rest : List Value}
    (hC : sx_Cx p s m args c cc nL own Ts) (hml : sx_mlk own args s y q) (hM : Met l y [Cond.code y bytes maxL ret] rm Pc Qc mc ms free) (hrc : rm.cells = mc) (hrs : rm.slots = ms) (hfr : rm.frames + 1 ≤ R.frames) (hlo : 8 + (maxL + 11) + rm.locals ≤ R.locals) (hcode : (Cond.code y bytes maxL ret).before args s = true) (hret : q.2.1 = 2 → ret = none)
    (hbl : FrameBlind Pc) (hPc : ∀ U : State, U.heap = H → s.WarmedH U.vm → Pc vs.toArray U) (hsz : ls.size = nL) (hn : vs.length = q.2.2.2 + (if q.2.1 = 1 then 0 else 1))
    (hrecv : q.2.1 ≠ 1 → ∃ b As, vs = .ref b :: As ∧ ∃ cellB : Cell, H[b]? = some cellB ∧ cellB.vm.isStatics = false ∧ s.vm.findClass y.cls = some cellB.cls)
    (hsum : (rest.map fun v => v.category).sum ≤ 8) (hf : nc + mc ≤ R.cells ∧ ns + ms ≤ R.slots) (hd : decode cc pc = .ok (sx_inv q.2.1 q.1, 3)) :
    va_Run p l e R s m args below meth c H locs nc ns mc ms (F0 m pc ls (vs.reverse ++ rest)) rest (Qc vs.toArray) free := by
  obtain ⟨hx, hb, hml0, hown, hts⟩ := hC
  obtain ⟨hy, hpar, hini, hlink, hkind⟩ := hml
  have hlen := sx_len_of hpar
  have hws : ∀ w ∈ [Cond.code y bytes maxL ret], ∀ (a' : Array Value) (U : State), s.WarmedH U.vm → w.before a' U = true := fun w hw a' U hW => by
    have hw' : w = Cond.code y bytes maxL ret := by simpa using hw
    subst hw'
    exact word_at hW (Or.inl (by first | rfl | simp [Cond.onTables, Cond.keeps, Cond.steady])) hcode
  have hroom : 2 * (F0 m pc ls (vs.reverse ++ rest)).monitorRoom + (rest.map fun v => v.category).sum ≤ 8 := lv_room hsum
  have S : CallFix p m c cc nL s args Ts own := ⟨hx, hb, hml0, hown, hts⟩
  rcases hkind with ⟨k0, hin, hsel⟩ | ⟨k1, hst⟩ | ⟨k2, hin, hinit⟩
  · rw [k0] at hd hn hrecv
    have hd : decode cc pc = .ok (.invokevirtual q.1, 3) := hd
    obtain ⟨b, As, rfl, hcell⟩ := hrecv (by decide)
    have hn' : As.length = q.2.2.2 := by simpa using hn
    have hstk : (F0 m pc ls ((Value.ref b :: As).reverse ++ rest)).stack = As.reverse ++ .ref b :: rest := by simp
    rcases hlink with hlink | ⟨host, hlink⟩
    · exact va_runV S hM ⟨⟨hrc, hrs, hfr, hlo, hws, List.mem_cons_self, hcode, hini, hy, hlen, hlink⟩, hin, hsel⟩ ⟨hbl, hcell, hPc⟩ rfl hn' hsz hstk hroom hd hf
    · exact va_runVN S hM ⟨⟨⟨hrc, hrs, hfr, hlo, hws, List.mem_cons_self⟩, hcode, hini, hy, hlen, hlink⟩, hin, hsel⟩ ⟨hbl, hcell, hPc⟩ rfl hn' hsz hstk hroom hd hf
  · rw [k1] at hd hn
    have hd : decode cc pc = .ok (.invokestatic q.1, 3) := hd
    have hn' : vs.length = q.2.2.2 := by simpa using hn
    rcases hlink with hlink | ⟨host, hlink⟩
    · exact va_runS S hM ⟨⟨hrc, hrs, hfr, hlo, hws, List.mem_cons_self, hcode, hini, hy, hlen, hlink⟩, hst⟩ ⟨hbl, hPc⟩ rfl hn' hsz rfl hroom hd hf
    · exact va_runSN S hM ⟨⟨⟨hrc, hrs, hfr, hlo, hws, List.mem_cons_self⟩, hcode, hini, hy, hlen, hlink⟩, hst, trivial⟩ ⟨hbl, hPc⟩ rfl hn' hsz rfl hroom hd hf
  · rw [k2] at hd hn hrecv
    have hd : decode cc pc = .ok (.invokespecial q.1, 3) := hd
    obtain ⟨b, As, rfl, hcell⟩ := hrecv (by decide)
    obtain rfl := hret k2
    have hn' : As.length = q.2.2.2 := by simpa using hn
    have hstk : (F0 m pc ls ((Value.ref b :: As).reverse ++ rest)).stack = As.reverse ++ .ref b :: rest := by simp
    rcases hlink with hlink | ⟨host, hlink⟩
    · exact va_runI S hM ⟨⟨hrc, hrs, hfr, hlo, hws, List.mem_cons_self, hcode, hini, hy, hlen, hlink⟩, hinit, hin⟩ ⟨hbl, hPc⟩ rfl hn' hsz hstk hroom hd hf
    · exact va_runIN S hM ⟨⟨⟨hrc, hrs, hfr, hlo, hws, List.mem_cons_self⟩, hcode, hini, hy, hlen, hlink⟩, hinit, hin⟩ ⟨hbl, hPc⟩ rfl hn' hsz hstk hroom hd hf
/-- .. and W goes on behind it -/
theorem sx_goes {mc ms : Nat} {b0 : sx_B} {stk rest : List Value} {Q : State → Prop} {Qa : State → Outcome → State → Prop} (hr : va_Run p l e R s m args below meth c H locs nc ns mc ms (F0 m pc ls stk) rest Qa b0.1) (hV : va_S b0.1 s.heap H locs)
    (hq : ∀ (st₀ t : State) (vo : Option Value), st₀.heap = H → Qa st₀ (.returned vo) t → s.vm.Alike t.vm → va_F b0.1 st₀ t ∧ ∀ locs', va_S b0.1 s.heap t.heap locs' → W p l e R s m args below meth c t.heap locs' (nc + mc) (ns + ms) Q (F0 m (pc + 3) ls (vo.toList ++ rest))) : W p l e R s m args below meth c H locs nc ns Q (F0 m pc ls stk) := by
  intro T hT X
  obtain ⟨v, st₀, t, T', L, h0, X', hL, e1, e2, hQ, st⟩ := hr T hT X
  obtain ⟨⟨hz, hk⟩, hW⟩ := hq st₀ t v h0 hQ (by rw [← e2]; exact X'.warmed.alike)
  rw [h0] at hz hk
  obtain ⟨t2, a1, b1⟩ := hW (locs ++ L) ⟨Nat.le_trans hV.1 hz, fun q h1 h2 => by rw [hk q (Nat.lt_of_lt_of_le h1 hV.1) h2]; exact hV.2.1 q h1 h2, fun q hq => by
      rcases List.mem_append.mp hq with h | h
      · exact hV.2.2 q h
      · exact hL q h⟩ T' e1 X'
  exact ⟨t2, st t2 a1, b1⟩
end SX14
