/-! the law's body out of the runs -/
/-- a case's run gives the machine's way from there -/
theorem zgo {L : Nat} {l : Launch} {D : va_G} {b0 : Nat} {p : Program} {e : Env} {R : Room} {s : State} {m : MethodId} {args : Array Value} {below : List Frame} {meth : Method} {c : Code} {Q : State → Prop}
    (hF : sx_Frm D zCl zAO zTB b0 zM0 zbud p R s m args meth c) (hK : sx_KOK zFT D zCl (sxRT L) b0 p l e R s m args below meth c Q code ret (fun _ => none) [] zk0) {cks : Nat → sx_St → Bool} (hck : ∀ pc st, cks pc st = true → sx_W zFT D zCl (sxRT L) b0 4 p l e R s m args below meth c Q (fun _ => none) [] pc st) {pc : Nat} {st : sx_St}
    (h : sx_ex zCl (sxRT L) sxCJ zMT zCDs zmac 100000 zM0 zbud [] cks pc st zk0 = true) : sx_W zFT D zCl (sxRT L) b0 4 p l e R s m args below meth c Q (fun _ => none) [] pc st :=
  sx_ex_ok (zprog L) (zmacok D b0 L l) 100000 zM0 zbud [] cks pc st zk0 (List.mem_flatten.mpr ⟨_, List.mem_cons_self, List.mem_cons_self⟩) h p e R s m args below meth c Q (fun _ => none) [] hF (fun a ha => by simp at ha) hck hK
theorem zokn_W {l : Launch} {D : va_G} {b0 : Nat} {p : Program} {e : Env} {R : Room} {s : State} {m : MethodId} {args : Array Value} {below : List Frame} {meth : Method} {c : Code} {Q : State → Prop}
    (hF : sx_Frm D zCl zAO zTB b0 zM0 zbud p R s m args meth c) (hK : sx_KOK zFT D zCl (sxRT 6) b0 p l e R s m args below meth c Q code ret (fun _ => none) [] zk0) : ∀ (n pc : Nat) (st : sx_St), zokn n pc st → sx_W zFT D zCl (sxRT 6) b0 4 p l e R s m args below meth c Q (fun _ => none) [] pc st
  | 0, pc, st, h => by
    rcases h with h | ⟨pc', sg, mid, h1, h2⟩
    · exact zgo hF hK (fun _ _ h => by cases h) h
    · refine zgo hF hK (cks := zmid pc' sg mid) (fun pc st h => ?_) h1
      unfold zmid at h
      simp only [Bool.and_eq_true] at h
      obtain ⟨h3, h4⟩ := h
      have h3 := Nat.eq_of_beq_eq_true h3
      subst h3
      split at h4
      · exact sx_instU_ok h4 (zgo hF hK (fun _ _ h => by cases h) h2)
      · cases h4
  | n + 1, pc, st, h => by
    rcases h with h | ⟨k, qs, h1, h2, h3, h4⟩
    · exact zokn_W hF hK n pc st h
    · exact sx_cut (z := 0) (u := (2, 0, 0)) (t := (0, -2147483648, 2147483647)) (len := 6) (fz := 1) h3 ⟨rfl, rfl⟩ rfl h1 rfl h2 (fun q hq => zokn_W hF hK n pc _ (h4 q hq))
theorem zcells {s : State} {args : Array Value} (hts : ∀ w ∈ zTB, w.before args s = true) : ∃ D : va_G, va_K D zCl [] s := by
  have key : ∀ k : Nat, ∃ q : ClassId × (Nat → Nat), ∀ r : vw_C, zCl[k]? = some r → u_Kn s r.1 r.2.1 r.2.2 q.1 q.2 := by
    intro k
    cases hk : zCl[k]? with
    | none => exact ⟨(0, fun _ => 0), fun r hr => by cases hr⟩
    | some r =>
      obtain ⟨h1, h2, h3⟩ := zclok r (List.mem_of_getElem? hk)
      have hlt : k < zIs.length := by
        have : k < zCl.length := (List.getElem?_eq_some_iff.mp hk).1
        exact this
      have hi : zIs[k]? = some zIs[k] := List.getElem?_eq_getElem hlt
      have := zk2_at zik hk hi
      unfold zkI at this
      obtain ⟨cC, iS, h⟩ := u_known (C := r.1) (T := r.2.1) (N := r.2.2) hts h1 (hts _ (zw_ok this))
      exact ⟨(cC, iS), fun r' hr => by cases hr; exact h⟩
  exact ⟨(fun k => (Classical.choose (key k)).1, fun k => (Classical.choose (key k)).2), fun k r hr => Classical.choose_spec (key k) r hr, fun k q h => by simp at h⟩
theorem zend {L : Nat} {l : Launch} {D : va_G} {p : Program} {e : Env} {s : State} {m : MethodId} {below : List Frame} {meth : Method} {c : Code} {b : Nat} (hx : p.tables.exec = Jvm.exec) (hb : c.code = code) (hr : meth.sig.returnType = ret) (hlocks : meth.locks = false) :
    sx_KOK zFT D zCl (sxRT L) s.heap.size p l e room_1 s m #[Value.ref b] below meth c (lw_Z below #[Value.ref b] s) code ret (fun _ => none) [] zk0 := by
  intro r K nc ns hk Sg H ρ locs vo i pc ls _ _ _ hG hV hvo hrv hd
  unfold zk0 at hk
  simp only [Bool.and_eq_true, decide_eq_true_eq] at hk
  obtain ⟨⟨k1, k2⟩, k3⟩ := hk
  subst k1
  obtain ⟨v, rfl, hv⟩ := hvo
  obtain ⟨x, rfl, hx1⟩ := sx_av_int hv
  have h1 : x.toInt = 1 := sx_lf_const hx1 rfl
  have hx2 : x = 1 := Int32.toInt_inj.mp (by rw [h1]; decide)
  subst hx2
  have hi : i = .ireturn := by
    rcases hrv with ⟨h, -⟩ | ⟨h, -⟩ | ⟨-, -, h⟩ | ⟨-, -, h⟩
    · exact h
    · exact h
    · rcases h with h | ⟨q, h⟩ <;> cases h
    · cases h
  subst hi
  refine va_forget (fun q hq => hV.2.2 q hq) (W.widen (k := 600000) (n := 7302249) k2 k3 ?_)
  exact lw_ret hx hb hr hlocks hd
theorem zstart {L : Nat} {D : va_G} {s : State} {m : MethodId} {b : Nat} {xs : Nat → Int32} (hX : va_X b L xs s s.heap) (hbl : b < s.heap.size) (hL : L ≤ 6) :
    ∃ (Sg : Nat → Option Nat) (ls : Array Slot), sx_Pt zFT D zCl (sxRT L) s.heap.size 4 s Sg s.heap [.ref b] zst0.1 zst0.2.1.1 zst0.2.1.2 ls [] [] ∧ entryFrame m ([Value.ref b] : List Value).toArray 4 = F0 m 0 ls [] := by
  obtain ⟨scr, hcb, hof, hkn, hsz, hval⟩ := hX
  refine ⟨fun a => if a = b then some 0 else none, _, ⟨?_, ⟨⟨rfl, ?_⟩, ?_, ?_, ?_, ?_, ?_, ?_⟩, ⟨?_, ?_, ?_, trivial⟩, va_S.rf⟩, lg_entry_eq m [Value.ref b] 4⟩
  · intro a r ha
    simp only at ha
    split at ha
    · rename_i hab
      cases ha
      refine ⟨(1, L, 1, [(0, -2147483648, 2147483647)]), rfl, ⟨scr, by rw [hab]; exact hcb, Or.inr ⟨Nat.one_ne_zero, hof, hkn, Nat.le_of_eq hsz.symm, by rw [hsz], fun (h : (1 : Nat) = 3) => absurd h (by decide)⟩, fun k hk => ?_⟩, ⟨fun h => Bool.noConfusion h, fun a' ha' => ?_⟩⟩
      · have hk : k < L := hk
        refine ⟨.int (xs k), (0, -2147483648, 2147483647), hval k hk, rfl, Or.inl ⟨rfl, xs k, rfl, Int32.le_toInt _, ?_⟩⟩
        have := Int32.toInt_lt (xs k)
        show (xs k).toInt ≤ 2147483647
        omega
      · simp only at ha'
        split at ha'
        · rename_i h2; rw [h2, hab]
        · cases ha'
    · cases ha
  · intro z t v hz hv
    cases z with
    | zero =>
      have hz : (2, 0, 0) = t := by simpa [zst0] using hz
      have hv : Value.ref b = v := by simpa using hv
      subst hz; subst hv
      exact Or.inr (Or.inr (Or.inl ⟨rfl, b, rfl, by simp⟩))
    | succ z => simp [zst0] at hz
  · intro f hf; simp [zst0] at hf
  · intro f hf; simp [zst0] at hf
  · intro f hf; simp [zst0] at hf
  · intro f hf; simp [zst0] at hf
  · intro f hf; simp [zst0] at hf
  · intro a r ha
    simp only at ha
    split at ha
    · cases ha; decide
    · cases ha
  · exact (lv_entry [Value.ref b] (n := 4) (Nat.le_of_ble_eq_true rfl)).1
  · exact (lv_entry [Value.ref b] (n := 4) (Nat.le_of_ble_eq_true rfl)).2.1
  · intro q hq
    have hq : q = (0, (2, (0, []))) := by simpa [zst0] using hq
    subst hq
    exact ⟨.ref b, Or.inr (Or.inr (Or.inl ⟨rfl, rfl, b, rfl⟩)), (lv_entry [Value.ref b] (n := 4) (Nat.le_of_ble_eq_true rfl)).2.2 (0, .ref b) List.mem_cons_self⟩
theorem zshort {L : Nat} (hL : L < 6) : zlaw L (fun _ _ => false) = true := by
  match L, hL with
  | 0, _ => exact zA0
  | 1, _ => exact zA1
  | 2, _ => exact zA2
  | 3, _ => exact zA3
  | 4, _ => exact zA4
  | 5, _ => exact zA5
/-! the static tables, as the Statement gives them -/
def zsw (z : String × String × List Int) : List Cond := Cond.arrayOf (.static z.1 z.2.1 "[I") .int :: Cond.eq (.length (.static z.1 z.2.1 "[I")) (.int (Int32.ofNat z.2.2.length)) :: (List.range z.2.2.length).map (fun j => Cond.eq (.elem (.static z.1 z.2.1 "[I") (.int (Int32.ofNat j))) (.int (Int32.ofInt (z.2.2.getD j 0))))
def zsk (z : String × String × List Int) : Bool := (zsw z).all (fun w => decide (w ∈ flatC (Jvm.Cond.and given_1 narrow_1)))
set_option maxRecDepth 100000 in
theorem zskall : zAO.2.all zsk = true := by decide +kernel
theorem zsl1 : zget (5, 212) = some (Cond.laysStatic "ArcadePoles$Puzzles" "LETTERS" "[I") := by decide +kernel
theorem zsl2 : zget (5, 221) = some (Cond.laysStatic "ArcadePoles$Puzzles" "SIGN_WORTH" "[I") := by decide +kernel
theorem zsl3 : zget (5, 223) = some (Cond.laysStatic "ArcadePoles$Puzzles" "SIGN_FIRST" "[I") := by decide +kernel
theorem zsl4 : zget (5, 225) = some (Cond.laysStatic "ArcadePoles$Puzzles" "SIGN_SECOND" "[I") := by decide +kernel
theorem zsl0 : zget (1, 12) = some (Cond.initialized "ArcadePoles$Puzzles") := by decide +kernel
theorem zstat1 {s : State} {args : Array Value} (hgv : (Jvm.Cond.and given_1 narrow_1).before args s = true) (z : String × String × List Int) (hn : z.2.2.length < 2 ^ 31) (hk : zsk z = true) (hl : (Cond.laysStatic z.1 z.2.1 "[I").before args s = true) (hi : (Cond.initialized z.1).before args s = true) :
    ∃ a : Nat, va_Z z.1 z.2.1 "[I" (.ref a) (fun q => s.heap.size ≤ q) s s.heap ∧ va_T .int a z.2.2.length (fun j => .int (Int32.ofInt (z.2.2.getD j 0))) (fun q => s.heap.size ≤ q) s s.heap := by
  have hfl := flat_of_before _ hgv
  have hw : ∀ w ∈ zsw z, w.before args s = true := fun w hw => hfl w (of_decide_eq_true (List.all_eq_true.mp hk w hw))
  have hA : ∀ a : Nat, a < s.heap.size → ¬ s.heap.size ≤ a := fun a h => by omega
  obtain ⟨t, t1, t2⟩ := va_Tof (N := z.2.2.length) (f := fun j => .int (Int32.ofInt (z.2.2.getD j 0))) (A := fun q => s.heap.size ≤ q) hn (hw _ List.mem_cons_self) (va_eqt (hw _ (List.mem_cons_of_mem _ List.mem_cons_self))) (fun j hj => va_eqt (hw _ (List.mem_cons_of_mem _ (List.mem_cons_of_mem _ (List.mem_map.mpr ⟨j, List.mem_range.mpr hj, rfl⟩))))) hA
  exact ⟨t, va_Zref hl hi t1 hA, t2⟩
theorem zstat {s : State} {args : Array Value} (hts : ∀ w ∈ lw_tbl, w.before args s = true) (hgv : (Jvm.Cond.and given_1 narrow_1).before args s = true) : sx_ZS zAO.2 s.heap.size s := by
  have hi := hts _ (zget_mem zsl0)
  have hk := List.all_eq_true.mp zskall
  show ∀ z ∈ ([("ArcadePoles$Puzzles", "LETTERS", zSL), ("ArcadePoles$Puzzles", "SIGN_WORTH", zSW), ("ArcadePoles$Puzzles", "SIGN_FIRST", zSF), ("ArcadePoles$Puzzles", "SIGN_SECOND", zSS)] : List (String × String × List Int)), _
  exact zfc (zstat1 hgv ("ArcadePoles$Puzzles", "LETTERS", zSL) (by decide) (hk _ (by decide +kernel)) (hts _ (zget_mem zsl1)) hi) (zfc (zstat1 hgv ("ArcadePoles$Puzzles", "SIGN_WORTH", zSW) (by decide) (hk _ (by decide +kernel)) (hts _ (zget_mem zsl2)) hi) (zfc (zstat1 hgv ("ArcadePoles$Puzzles", "SIGN_FIRST", zSF) (by decide) (hk _ (by decide +kernel)) (hts _ (zget_mem zsl3)) hi) (zfc (zstat1 hgv ("ArcadePoles$Puzzles", "SIGN_SECOND", zSS) (by decide) (hk _ (by decide +kernel)) (hts _ (zget_mem zsl4)) hi) zfn)))
/-- YOUR PART: from the entry, for every script of at most 6 ints, the law comes to its end with true -/
theorem whole_start {p : Program} {e : Env} {s : State} {m : MethodId} {below : List Frame} {meth : Method} {c : Code} (l : Launch) (hflags : l.flags = flags0) {b L : Nat} {xs : Nat → Int32} (hL : L ≤ 6) (C0 : lw_At p s m meth c b L xs) : W p l e room_1 s m #[Value.ref b] below meth c s.heap [] 0 0 (lw_Z below #[Value.ref b] s) (entryFrame m ([Value.ref b] : List Value).toArray 4) := by
  obtain ⟨hx, hb, hr, hml, hown, hts, hX, hbl, hlocks, hgv⟩ := C0
  have hts' : ∀ w ∈ zTB, w.before #[Value.ref b] s = true := fun w hw => hts w (List.mem_filter.mp hw).1
  obtain ⟨D, hKn⟩ := zcells hts'
  have hKs : sx_Ks D zCl zAO zTB s := ⟨hKn, fun C hC => by
      have hC : C = "ArcadePoles$Arcade" := by simpa [zAO] using hC
      subst hC
      exact va_AO.of (hts _ (zget_mem zao)), fun w hw a => sx_gw_move (List.mem_filter.mp hw).2 (State.WarmedH.refl s) (hts' w hw)⟩
  have hF : sx_Frm D zCl zAO zTB s.heap.size zM0 zbud p room_1 s m #[Value.ref b] meth c := ⟨⟨hx, hb, hml, hown, hts'⟩, hKs, Nat.le_refl _, rfl, rfl, rfl, rfl, (fun h => Bool.noConfusion h), hr, hlocks, zstat hts hgv⟩
  have hK := zend (L := L) (l := l) (D := D) (e := e) (below := below) (m := m) (s := s) (b := b) hx hb hr hlocks
  have hW0 : sx_W zFT D zCl (sxRT L) s.heap.size 4 p l e room_1 s m #[Value.ref b] below meth c (lw_Z below #[Value.ref b] s) (fun _ => none) [] 0 zst0 := by
    by_cases h6 : L < 6
    · exact zgo hF hK (fun _ _ h => by cases h) (zshort h6)
    · obtain rfl : L = 6 := by omega
      refine zgo (cks := zck) hF hK (fun pc st h => ?_) zA6
      unfold zck at h
      split at h
      · rename_i q hq
        have h1 := sx_fnd_mem hq
        have h2 : q.1 = pc := Nat.eq_of_beq_eq_true (sx_fnd_some (α := Nat × List Nat × sx_St) (p := fun c => Nat.beq c.1 pc) hq)
        subst h2
        exact sx_inst_ok h (zokn_W hF hK 2 _ _ (zcase q h1))
      · cases h
  obtain ⟨Sg, ls, hPt, he⟩ := zstart (D := D) (m := m) hX hbl hL
  rw [he]
  exact hW0 Sg s.heap [.ref b] ls [] [] (fun a r h => by cases h) List.nil_prefix hPt
