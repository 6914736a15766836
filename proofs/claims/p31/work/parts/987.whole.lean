/-! the law from its entry: the start, the loop, the end -/
theorem zcells {s : State} {args : Array Value} (hts : ∀ w ∈ zTB, w.before args s = true) : ∃ D : va_G, va_K D zCl [] s := by
  have key : ∀ k : Nat, ∃ q : ClassId × (Nat → Nat), ∀ r : vw_C, zCl[k]? = some r → u_Kn s r.1 r.2.1 r.2.2 q.1 q.2 := by
    intro k
    cases hk : zCl[k]? with
    | none => exact ⟨(0, fun _ => 0), fun r hr => by cases hr⟩
    | some r =>
      obtain ⟨h1, h2, h3⟩ := zclok r (List.mem_of_getElem? hk)
      have hlt : k < zIs.length := by
        have : k < zCl.length := (List.getElem?_eq_some_iff.mp hk).1
        exact this
      have hi : zIs[k]? = some zIs[k] := List.getElem?_eq_getElem hlt
      have := zk2_at zik hk hi
      unfold zkI at this
      obtain ⟨cC, iS, h⟩ := u_known (C := r.1) (T := r.2.1) (N := r.2.2) hts h1 (hts _ (zw_ok this))
      exact ⟨(cC, iS), fun r' hr => by cases hr; exact h⟩
  exact ⟨(fun k => (Classical.choose (key k)).1, fun k => (Classical.choose (key k)).2), fun k r hr => Classical.choose_spec (key k) r hr, fun k q h => by simp at h⟩
theorem zZS0 {z : String × String × String × Nat} {A : Nat → Prop} {U : State} (hk : sx_sk z.2.2.1 = 0) (h : va_Z z.1 z.2.1 z.2.2.1 (.ref z.2.2.2) A U U.heap) : sx_ZS1 z A U := by unfold sx_ZS1; rw [hk]; exact h
theorem zZS1 {z : String × String × String × Nat} {A : Nat → Prop} {U : State} (hk : sx_sk z.2.2.1 = 1) (h : va_Z z.1 z.2.1 z.2.2.1 (.int (Int32.ofNat z.2.2.2)) A U U.heap) : sx_ZS1 z A U := by unfold sx_ZS1; rw [hk]; exact h
theorem zZS2 {z : String × String × String × Nat} {A : Nat → Prop} {U : State} (hk : sx_sk z.2.2.1 = 2) (h : va_Zq z.1 z.2.1 z.2.2.1 A U U.heap) : sx_ZS1 z A U := by unfold sx_ZS1; rw [hk]; exact h
theorem zZS3 {z : String × String × String × Nat} {A : Nat → Prop} {U : State} {k : Nat} (hk : sx_sk z.2.2.1 = k + 3) (h : vk_R z.1 (k + 1) z.2.1 z.2.2.2 U ∧ sx_tx z.2.2.2 z.2.1 A U U.heap) : sx_ZS1 z A U := by unfold sx_ZS1; rw [hk]; exact h
def zST (t0 t1 t2 t3 t4 aW aS : Nat) : List (String × String × String × Nat) := [("ArcadePoles$Puzzles", "LETTERS", "[I", t1), ("ArcadePoles$Puzzles", "SIGN_WORTH", "[I", t2), ("ArcadePoles$Puzzles", "SIGN_FIRST", "[I", t3), ("ArcadePoles$Puzzles", "SIGN_SECOND", "[I", t4), ("ArcadePoles$Cheapest", "DIGIT", "[J", t0), ("java/lang/String", "COMPACT_STRINGS", "Z", 1), ("jdk/internal/util/Preconditions", "SIOOBE_FORMATTER", "Ljava/util/function/BiFunction;", 0), ("ArcadePoles$Reader", zWT, "S126", aW), ("ArcadePoles$Reader", zSGT, "S119", aS)]
theorem zSTx (t0 t1 t2 t3 t4 aW aS : Nat) : zSTt (zST t0 t1 t2 t3 t4 aW aS) aW aS := by
  refine ⟨⟨?_, ?_⟩, ?_, ?_⟩ <;> simp [zST]
theorem zgt {Sg2 : Nat → Option Nat} {t0 t1 t2 t3 t4 aW aS : Nat} (h0 : Sg2 t0 = some 0) (h1 : Sg2 t1 = some 246) (h2 : Sg2 t2 = some 247) (h3 : Sg2 t3 = some 248) (h4 : Sg2 t4 = some 249) : ∀ q ∈ zGT, sx_gtok zCDs (zAS (zST t0 t1 t2 t3 t4 aW aS)) zTB Sg2 q := by
  have d5 : ∀ d, zCDs[5]? = some d → d.1 = "ArcadePoles$Puzzles" := fun d hd => by
    obtain rfl : zD5 = d := Option.some.inj ((show zCDs[5]? = some zD5 from rfl).symm.trans hd)
    rfl
  have d1 : ∀ d, zCDs[1]? = some d → d.1 = "ArcadePoles$Cheapest" := fun d hd => by
    obtain rfl : zD1 = d := Option.some.inj ((show zCDs[1]? = some zD1 from rfl).symm.trans hd)
    rfl
  show ∀ q ∈ ([(5, 71, ("ArcadePoles$Puzzles", "LETTERS", "[I"), 246), (5, 74, ("ArcadePoles$Puzzles", "SIGN_WORTH", "[I"), 247), (5, 77, ("ArcadePoles$Puzzles", "SIGN_FIRST", "[I"), 248), (5, 80, ("ArcadePoles$Puzzles", "SIGN_SECOND", "[I"), 249), (1, 51, ("ArcadePoles$Cheapest", "DIGIT", "[J"), 0)] : List sx_Gt), _
  exact zfc ⟨t1, by simp [zST], h1, fun d hd => by rw [d5 d hd]; exact zGl0, rfl⟩ (zfc ⟨t2, by simp [zST], h2, fun d hd => by rw [d5 d hd]; exact zGl1, rfl⟩ (zfc ⟨t3, by simp [zST], h3, fun d hd => by rw [d5 d hd]; exact zGl2, rfl⟩ (zfc ⟨t4, by simp [zST], h4, fun d hd => by rw [d5 d hd]; exact zGl3, rfl⟩ (zfc ⟨t0, by simp [zST], h0, fun d hd => by rw [d1 d hd]; exact zGl4, rfl⟩ zfn))))
theorem zstart {D : va_G} {s : State} {m : MethodId} {b : Nat} : ∃ ls : Array Slot, sx_Pt (fun _ _ => 0) D zCl (sxRT 6) (zB1 s) 4 s (fun _ => none) s.heap [.ref b] zst0.1 zst0.2.1.1 zst0.2.1.2 ls [] [] ∧ entryFrame m ([Value.ref b] : List Value).toArray 4 = F0 m 0 ls [] := by
  refine ⟨_, ⟨fun a r h => (by cases h), ⟨⟨rfl, fun z t v hz hv => ?_⟩, fun f hf => ?_, fun f hf => ?_, fun f hf => ?_, fun f hf => ?_, fun f hf => ?_, fun a r h => (by cases h)⟩, ⟨?_, ?_, fun q hq => ?_, trivial⟩, ⟨va_S.rf, trivial, sx_jkp_true⟩⟩, lg_entry_eq m [Value.ref b] 4⟩
  · cases z with
    | zero =>
      have hz : (3, 0, 0) = t := by simpa [zst0] using hz
      have hv : Value.ref b = v := by simpa using hv
      subst hz; subst hv
      exact Or.inr (Or.inr (Or.inr ⟨rfl, Or.inr ⟨b, rfl⟩⟩))
    | succ z => simp [zst0] at hz
  · simp [zst0] at hf
  · simp [zst0] at hf
  · simp [zst0] at hf
  · simp [zst0] at hf
  · simp [zst0] at hf
  · exact (lv_entry [Value.ref b] (n := 4) (Nat.le_of_ble_eq_true rfl)).1
  · exact (lv_entry [Value.ref b] (n := 4) (Nat.le_of_ble_eq_true rfl)).2.1
  · have hq : q = (0, (2, (0, []))) := by simpa [zst0] using hq
    subst hq
    exact ⟨.ref b, Or.inr (Or.inr (Or.inl ⟨rfl, rfl, b, rfl⟩)), (lv_entry [Value.ref b] (n := 4) (Nat.le_of_ble_eq_true rfl)).2.2 (0, .ref b) List.mem_cons_self⟩
/-- YOUR PART: from the entry, for every script of at most 3072 ints, the law comes to its end with true ('hflags': the launch's flags, for a law that throws: no stack traces) -/
theorem whole_start {p : Program} {e : Env} {s : State} {m : MethodId} {below : List Frame} {meth : Method} {c : Code} (l : Launch) (hflags : l.flags = flags0) {b L : Nat} {xs : Nat → Int32} (hL : L ≤ 3072) (C0 : lw_At p s m meth c b L xs) : W p l e room_1 s m #[Value.ref b] below meth c s.heap [] 0 0 (lw_Z below #[Value.ref b] s) (entryFrame m ([Value.ref b] : List Value).toArray 4) := by
  obtain ⟨hx, hb, hr, hml, hown, hts, hX, hbl, hlocks, hgv⟩ := C0
  have hts' : ∀ w ∈ zTB, w.before #[Value.ref b] s = true := fun w hw => hts w (List.mem_filter.mp hw).1
  obtain ⟨D, hKn⟩ := zcells hts'
  have wi : ∀ {q : Nat × Nat} {w : Cond}, zget q = some w → w.before #[Value.ref b] s = true := fun h => hts _ (zget_mem h)
  obtain ⟨t1, z1, T1⟩ := zstatI hgv (C := "ArcadePoles$Puzzles") (n := "LETTERS") (v := zTv0) (by decide) zsq0 (wi zsl0) (wi zsia)
  obtain ⟨t2, z2, T2⟩ := zstatI hgv (C := "ArcadePoles$Puzzles") (n := "SIGN_WORTH") (v := zTv1) (by decide) zsq1 (wi zsl1) (wi zsia)
  obtain ⟨t3, z3, T3⟩ := zstatI hgv (C := "ArcadePoles$Puzzles") (n := "SIGN_FIRST") (v := zTv2) (by decide) zsq2 (wi zsl2) (wi zsia)
  obtain ⟨t4, z4, T4⟩ := zstatI hgv (C := "ArcadePoles$Puzzles") (n := "SIGN_SECOND") (v := zTv3) (by decide) zsq3 (wi zsl3) (wi zsia)
  obtain ⟨t0, z0, T0⟩ := zstatJ hgv (C := "ArcadePoles$Cheapest") (n := "DIGIT") (v := zTv4) (by decide) zsq4 (wi zsl4) (wi zsib)
  obtain ⟨aW, xW⟩ := zstatT hgv (k := 126) (tx := zWT) (by rw [zwt_len]; decide) zsqW (wi zsrW)
  obtain ⟨aS, xS⟩ := zstatT hgv (k := 119) (tx := zSGT) (by rw [zsg_len]; decide) zsqS (wi zsrS)
  have zc := va_Zof (A := fun q => s.heap.size ≤ q) (wi zslc) (wi zsic) (va_eqt (zsk_w hgv zsqc _ List.mem_cons_self)) zsA
  have zd := va_Zqof (A := fun q => s.heap.size ≤ q) (wi zsld) (wi zsid) (zsk_w hgv zsqc _ (List.mem_cons_of_mem _ List.mem_cons_self)) zsA
  have hZS : sx_ZS (zST t0 t1 t2 t3 t4 aW aS) (zB1 s) s := show ∀ z ∈ zST t0 t1 t2 t3 t4 aW aS, _ from zfc (zZS0 rfl z1) (zfc (zZS0 rfl z2) (zfc (zZS0 rfl z3) (zfc (zZS0 rfl z4) (zfc (zZS0 rfl z0) (zfc (zZS1 rfl zc) (zfc (zZS2 rfl zd) (zfc (zZS3 (k := 125) rfl xW) (zfc (zZS3 (k := 118) rfl xS) zfn))))))))
  have hKs : sx_Ks D zCl (zAS (zST t0 t1 t2 t3 t4 aW aS)) zTB s := ⟨hKn, fun C hC => by
      have hC : C = "ArcadePoles$Arcade" := by simpa using hC
      subst hC
      exact va_AO.of (hts _ (zget_mem zao)), fun w hw a => sx_gw_move (List.mem_filter.mp hw).2 (State.WarmedH.refl s) (hts' w hw)⟩
  have hF : sx_Frm D zCl (zAS (zST t0 t1 t2 t3 t4 aW aS)) zTB (zB1 s) zM0 zbud p room_1 s m #[Value.ref b] meth c := ⟨⟨hx, hb, hml, hown, hts'⟩, hKs, fun q hq => hq, rfl, rfl, rfl, rfl, (fun h => Bool.noConfusion h), hr, hlocks, hZS⟩
  have hTs : va_T .int b L (fun j => .int (xs j)) (zB1 s).1 s s.heap := by
    obtain ⟨scr, hcb, hof, hkn, hsz, hval⟩ := hX
    exact ⟨scr, hcb, hof, hkn, by omega, by rw [hsz], hval, zsA b hbl⟩
  have hck : ∀ pc st, (Nat.beq pc 18 && zrtck st) = true → sx_W (fun _ _ => 0) D zCl (sxRT 6) (zB1 s) 4 p l e room_1 s m #[Value.ref b] below meth c (lw_Z below #[Value.ref b] s) (fun _ => none) [.ref b] pc st := fun pc st h => by
    simp only [Bool.and_eq_true] at h
    obtain ⟨h1, h2⟩ := h
    obtain rfl := Nat.eq_of_beq_eq_true h1
    obtain ⟨⟨⟨E, C, N, U⟩, F, A, n⟩, ⟨Lx, S⟩, nc, ns⟩ := st
    intro Sg H ρ ls stk locs hle hpre hP
    have hρ : ρ[0]? = some (.ref b) := by
      obtain ⟨r, rfl⟩ := hpre
      rfl
    obtain ⟨Sg2, ax, am, i, hw, ⟨g0, g1, g2, g3, g4⟩, hax, ham, hi, hl, rfl, hX2, hnc, hns⟩ := zworld hP h2 hρ T0 T1 T2 T3 T4
    have hKK := zKKp (zST t0 t1 t2 t3 t4 aW aS)
    have CC : zLC D (zST t0 t1 t2 t3 t4 aW aS) (zB1 s) l (zB1 s).1 Sg2 p room_1 s m #[Value.ref b] meth c b ax am L xs nc ns := ⟨hKK, hw, fun a h => h, fun a h => h, zctall hw hKK (zSTx t0 t1 t2 t3 t4 aW aS) (zgt g0 g1 g2 g3 g4), hF, hTs, hL, hax, ham, hnc, hns⟩
    refine zlaw_loop CC (fun H locs ls hV => ?_) (zgt g0 g1 g2 g3 g4) _ (i := i) rfl (by omega) (by omega) hX2 hl
    refine va_forget (fun q hq => hV.2.2 q hq) (W.widen (k := 600000) (n := 7302249) hnc hns ?_)
    exact lw_ret hx hb hr hlocks (pv_row zMk0.1 (pc := 1411) rfl)
  have hW0 := sx_ex_ok (FT := fun _ _ => 0) (D := D) (l := l) (b0 := zB1 s) (zprogR (zrtok 6) (zST t0 t1 t2 t3 t4 aW aS)) (fun _ _ _ _ _ _ _ _ _ hmac => by cases hmac) 100000 zM0 zbud [] (fun pc st => Nat.beq pc 18 && zrtck st) 0 zst0 zk0 (sx_at2_mem (i := 0) rfl) zA18 p e room_1 s m #[Value.ref b] below meth c (lw_Z below #[Value.ref b] s) (fun _ => none) [.ref b] hF (fun a ha => absurd ha List.not_mem_nil) hck (fun r K nc ns hk => by cases hk)
  obtain ⟨ls, hPt, he⟩ := zstart (D := D) (s := s) (m := m) (b := b)
  rw [he]
  exact hW0 (fun _ => none) s.heap [.ref b] ls [] [] (fun a r h => (by cases h)) List.prefix_rfl hPt
