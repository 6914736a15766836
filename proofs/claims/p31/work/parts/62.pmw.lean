/-! pm, the heap's steps, runs of steps, the judgement -/
/-- arrays of ints hold ints -/
def pm_rtk (RT : Nat → Option sx_Rg) : Prop := ∀ r g, RT r = some g → g.1 = 1 → ∀ t ∈ g.2.2.2, t.1 = 0
theorem pm_rtk_ok {RT : Nat → Option sx_Rg} (h : pm_rtk RT) {r k : Nat} {g : sx_Rg} {t : sx_Ty} (hr : RT r = some g) (hg : g.1 = 1) (ht : sx_ft g k = some t) : t.1 = 0 := by
  unfold sx_ft at ht
  rw [if_neg (by omega)] at ht
  exact h r g hr hg t (List.mem_of_getElem? ht)
section PMD2
variable {D : va_G} {cl : List vw_C} {RT : Nat → Option sx_Rg} {Wm : Nat} {AO : sx_Ao} {TB : List Cond} {CJ : List (List Nat)} {MT : List (List sx_Me)} {CDs : List sx_Da} {b0 : sx_B} {l : Launch} {Sg : Nat → Option Nat} {M : sx_Me} {bud : sx_Bu} {p : Program} {e : Env} {R : Room} {s : State} {m : MethodId} {args : Array Value} {below : List Frame} {meth : Method} {c : Code} {Q : State → Prop} {H : Heap} {locs : List Loc} {ls : Array Slot} {stk : List Value} {nc ns pc nL len : Nat} {i : Instr} {lv st : List pm_V} {μ : pm_Mem} {cc : ByteArray} {own : String} {wr : Bool}
theorem pm_heap_ok {FL : List sx_Fl} {n : Nat} {st' : List pm_V} {μ' : pm_Mem} {Φ : List Prop} (hC : sx_Cx p s m args c cc nL own TB) (hKn : va_K D cl [] s) (hcl : sx_clok cl TB) (hRT : sx_rtok cl RT) (hrk : pm_rtk RT) (hFL : ∀ q ∈ FL, sx_flk cl own args s q) (h : pm_heap FL RT Wm i st μ = some ((n, st', μ'), Φ)) (hΦ : pm_all Φ) (hP : pm_P D cl RT Wm b0 Sg s nL lv st μ H locs ls stk) (hd : decode cc pc = .ok (i, n))
    (kk : ∀ H' locs' stk', pm_P D cl RT Wm b0 Sg s nL lv st' μ' H' locs' ls stk' → W p l e R s m args below meth c H' locs' nc ns Q (F0 m (pc + n) ls stk')) : W p l e R s m args below meth c H locs nc ns Q (F0 m pc ls stk) := by
  obtain ⟨hH, hM, hV, hL, hS⟩ := hP
  have hts := hC.2.2.2.2
  unfold pm_heap at h
  split at h
  · split at h
    · rename_i idx a rest
      obtain ⟨v, r, rfl, h1, h2⟩ := pm_S_cons hS
      split at h
      · rename_i g q ha hg hq
        obtain ⟨hq1, hq2⟩ := sx_flget_ok hq
        subst hq2
        obtain ⟨ad, rfl, k2⟩ := pm_v_ref h1 (Nat.eq_of_beq_eq_true ha)
        obtain ⟨cell, k4, k5, k6, -, -⟩ := pm_cell hH k2 hg
        split at h
        · rename_i t hc ht
          simp only [sx_ab_eq, Bool.and_eq_true] at hc
          obtain ⟨c1, c2, c3⟩ := hc
          have c1 := Nat.eq_of_beq_eq_true c1
          have c2 := Nat.eq_of_beq_eq_true c2
          have c3 := Nat.blt_eq.mp c3
          have hkd : cell.cls = D.1 g.2.1 ∧ cell.vm = .none := by
            rcases k5 with ⟨-, x1, x2⟩ | ⟨x1, -⟩
            · exact ⟨x1, x2⟩
            · exact absurd c1 x1
          obtain ⟨w, t0, s1, s2, s3⟩ := k6 q.2.2.1 c3
          rw [ht] at s2
          cases s2
          have hsl : sx_sl D g q.2.2.1 = D.2 q.2.1 q.2.2.1 := by rw [sx_sl0 c1, c2]
          split at h
          · rename_i ht0
            cases h
            obtain ⟨w', w1, w2⟩ := hM ad _ g cell q.2.2.1 t k2 hg k4 c3 ht (by omega)
            rw [s1] at w1
            cases w1
            rw [ht0] at w2
            rw [hsl] at s1
            exact sx_Wget hC hKn hcl (hFL q hq1) k4 (by rw [← c2]; exact hkd.1) hkd.2 s1 hd (kk H locs _ ⟨hH, hM, hV, hL, w2, h2⟩)
          · rename_i ht2
            cases h
            rw [hsl] at s1
            refine sx_Wget hC hKn hcl (hFL q hq1) k4 (by rw [← c2]; exact hkd.1) hkd.2 s1 hd (kk H locs _ ⟨hH, hM, hV, hL, ?_, h2⟩)
            have : pm_wt t = t := by unfold pm_wt; rw [if_neg (by omega), if_neg (by omega)]
            rw [this] at s3
            rcases s3 with ⟨k1, -⟩ | ⟨k1, -⟩ | ⟨-, a', k1, k2'⟩ | ⟨k1, -⟩
            · omega
            · omega
            · exact Or.inr (Or.inr (Or.inl ⟨rfl, a', k1, k2'⟩))
            · omega
          · cases h
        · cases h
      · cases h
    · cases h
  · split at h
    · rename_i idx v a rest
      obtain ⟨w1, r1, rfl, h1, hs1⟩ := pm_S_cons hS
      obtain ⟨w2, r2, rfl, h2, hs2⟩ := pm_S_cons hs1
      split at h
      · rename_i g q ha hg hq
        obtain ⟨hq1, hq2⟩ := sx_flget_ok hq
        subst hq2
        simp only [sx_ab_eq, Bool.and_eq_true] at ha
        obtain ⟨a1, a2⟩ := ha
        obtain ⟨ad, rfl, k2⟩ := pm_v_ref h2 (Nat.eq_of_beq_eq_true a2)
        obtain ⟨y, rfl, hy⟩ := pm_v_int h1 (Nat.eq_of_beq_eq_true a1)
        obtain ⟨cell, k4, k5, k6, k7, -⟩ := pm_cell hH k2 hg
        split at h
        · rename_i t hc ht
          simp only [sx_ab_eq, Bool.and_eq_true] at hc
          obtain ⟨c1, c2, c3, c4, c6⟩ := hc
          have c1 := Nat.eq_of_beq_eq_true c1
          have c2 := Nat.eq_of_beq_eq_true c2
          have c3 := Nat.blt_eq.mp c3
          have c4 := Nat.eq_of_beq_eq_true c4
          have c6 := Nat.eq_of_beq_eq_true c6
          have hkd : cell.cls = D.1 g.2.1 ∧ cell.vm = .none := by
            rcases k5 with ⟨-, x1, x2⟩ | ⟨x1, -⟩
            · exact ⟨x1, x2⟩
            · exact absurd c1 x1
          obtain ⟨w, t0, s1, s2, s3⟩ := k6 q.2.2.1 c3
          rw [ht] at s2
          cases s2
          have hsl : sx_sl D g q.2.2.1 = D.2 q.2.1 q.2.2.1 := by rw [sx_sl0 c1, c2]
          have hap : ∀ x y, x < sx_wd g → y < sx_wd g → x ≠ y → sx_sl D g x ≠ sx_sl D g y := fun x y hx hy hne => sx_apart hts hKn hcl hRT _ hg hx hy hne
          have fin : sx_bit Wm a.2.toNat = true → t.1 = 0 → (∀ ty, sx_jc q.2.2.2.1 ty → narrow ty (.int y) = .int y ∧ fits ty (.int y) = true) → n = 3 → st' = rest → μ' = pm_up μ a.2.toNat (q.2.2.1 : Int) v.2 → W p l e R s m args below meth c H locs nc ns Q (F0 m pc ls (.int y :: .ref ad :: r2)) := fun c5 ht0 hn e1' e2' e3' => by
            subst e1'; subst e2'; subst e3'
            rw [hsl] at s1
            refine sx_Wput hC hKn hcl (hFL q hq1) (Or.inl c4) k4 (by rw [← c2]; exact hkd.1) hkd.2 s1 hn hd fun H' e1 e2 e3 => ?_
            obtain ⟨x1, x2⟩ := pm_write (x := v.2) (v := .int y) hH hM k2 hg k4 c3 ht (by omega) (by rw [ht0]; exact Or.inl ⟨rfl, y, rfl, hy⟩) hap (by rw [hsl]; exact e1) e3
            exact kk H' _ r2 ⟨x1, x2, hV.put e2 e3 (k7 c5 c6), hL, hs2⟩
          split at h
          · rename_i ht0
            split at h
            · rename_i hj
              cases h
              exact fin hΦ.1 ht0 (fun ty hty => by
                rw [hj] at hty
                rcases hty with ⟨-, rfl⟩ | ⟨h', -⟩ | ⟨h', -⟩ | ⟨h', -⟩
                · exact ⟨rfl, rfl⟩
                all_goals omega) rfl rfl rfl
            · rename_i hj
              cases h
              have hb : 0 ≤ v.2 ∧ v.2 ≤ 1 := hΦ.2.1
              refine fin hΦ.1 ht0 (fun ty hty => ?_) rfl rfl rfl
              rw [hj] at hty
              rcases hty with ⟨h', -⟩ | ⟨-, rfl⟩ | ⟨h', -⟩ | ⟨h', -⟩
              · omega
              · have hx : y = 0 ∨ y = 1 := by
                  rcases (show y.toInt = 0 ∨ y.toInt = 1 by omega) with h | h
                  · exact Or.inl (Int32.toInt_inj.mp (by rw [h]; decide))
                  · exact Or.inr (Int32.toInt_inj.mp (by rw [h]; decide))
                rcases hx with rfl | rfl
                · exact sx_nb0
                · exact sx_nb1
              · omega
              · omega
            · cases h
          · cases h
        · cases h
      · cases h
    · cases h
  · split at h
    · rename_i b a rest
      obtain ⟨w1, r1, rfl, h1, hs1⟩ := pm_S_cons hS
      obtain ⟨w2, r2, rfl, h2, hs2⟩ := pm_S_cons hs1
      split at h
      · rename_i g ha hg
        simp only [sx_ab_eq, Bool.and_eq_true] at ha
        obtain ⟨a1, a2⟩ := ha
        obtain ⟨ad, rfl, k2⟩ := pm_v_ref h2 (Nat.eq_of_beq_eq_true a2)
        obtain ⟨y, rfl, hy⟩ := pm_v_int h1 (Nat.eq_of_beq_eq_true a1)
        obtain ⟨cell, k4, k5, k6, k7, -⟩ := pm_cell hH k2 hg
        split at h
        · rename_i hg1
          have hg1 := Nat.eq_of_beq_eq_true hg1
          cases h
          have hb : 0 ≤ b.2 ∧ b.2 < (g.2.1 : Int) := hΦ.1
          have g0 : g.1 ≠ 0 := by omega
          have hwd : sx_wd g = g.2.1 := by unfold sx_wd; rw [if_neg g0]
          have hcn : y.toNatClampNeg = y.toInt.toNat := rfl
          have hk : y.toNatClampNeg < sx_wd g := by rw [hwd, hcn]; omega
          obtain ⟨w, t0, s1, s2, s3⟩ := k6 y.toNatClampNeg hk
          rw [sx_sl1 g0] at s1
          obtain ⟨w', w1, w2⟩ := hM ad _ g cell y.toNatClampNeg t0 k2 hg k4 hk s2 (by rw [pm_rtk_ok hrk hg hg1 s2]; omega)
          rw [sx_sl1 g0] at w1
          rw [pm_rtk_ok hrk hg hg1 s2, show ((y.toNatClampNeg : Nat) : Int) = b.2 by omega] at w2
          rw [s1] at w1
          cases w1
          exact sx_Wald hC (Or.inl ⟨rfl, hg1⟩) k4 k5 (by omega) (by omega) s1 hd (kk H locs _ ⟨hH, hM, hV, hL, w2, hs2⟩)
        · cases h
      · cases h
    · cases h
  · split at h
    · rename_i v b a rest
      obtain ⟨w0, r0, rfl, h0, hs0⟩ := pm_S_cons hS
      obtain ⟨w1, r1, rfl, h1, hs1⟩ := pm_S_cons hs0
      obtain ⟨w2, r2, rfl, h2, hs2⟩ := pm_S_cons hs1
      split at h
      · rename_i g ha hg
        simp only [sx_ab_eq, Bool.and_eq_true] at ha
        obtain ⟨a0, a1, a2⟩ := ha
        obtain ⟨ad, rfl, k2⟩ := pm_v_ref h2 (Nat.eq_of_beq_eq_true a2)
        obtain ⟨y, rfl, hy⟩ := pm_v_int h1 (Nat.eq_of_beq_eq_true a1)
        obtain ⟨x, rfl, hx⟩ := pm_v_int h0 (Nat.eq_of_beq_eq_true a0)
        obtain ⟨cell, k4, k5, k6, k7, -⟩ := pm_cell hH k2 hg
        split at h
        · rename_i hc
          simp only [sx_ab_eq, Bool.and_eq_true] at hc
          obtain ⟨hg1, c3⟩ := hc
          have hg1 := Nat.eq_of_beq_eq_true hg1
          have c3 := Nat.eq_of_beq_eq_true c3
          cases h
          have c2 := hΦ.1
          have hb : 0 ≤ b.2 ∧ b.2 < (g.2.1 : Int) := hΦ.2.1
          have g0 : g.1 ≠ 0 := by omega
          have hwd : sx_wd g = g.2.1 := by unfold sx_wd; rw [if_neg g0]
          have hcn : y.toNatClampNeg = y.toInt.toNat := rfl
          have hk : y.toNatClampNeg < sx_wd g := by rw [hwd, hcn]; omega
          obtain ⟨w, t0, s1, s2, s3⟩ := k6 y.toNatClampNeg hk
          have ht0 := pm_rtk_ok hrk hg hg1 s2
          have hap : ∀ x y, x < sx_wd g → y < sx_wd g → x ≠ y → sx_sl D g x ≠ sx_sl D g y := fun x y _ _ hne => by rw [sx_sl1 g0, sx_sl1 g0]; exact hne
          have hk5 := k5
          obtain ⟨hxx, hb0, -, hown, -⟩ := hC
          rcases k5 with ⟨q2, -⟩ | ⟨q2, q3, q4, q5, q6⟩
          · exact absurd q2 g0
          · have haa : sx_aty cl g = .int := by unfold sx_aty; rw [if_pos hg1]
            rw [haa] at q3
            obtain ⟨f1, -, -⟩ := sx_idx (x := y) (n := g.2.1) (by omega) (by omega) q5
            refine W.iast hxx hb0 k4 q3 q4 f1 rfl rfl hd (fun H' e1 e2 e3 => ?_)
            obtain ⟨x1, x2⟩ := pm_write (x := v.2) (v := .int x) hH hM k2 hg k4 hk s2 (by omega) (by rw [ht0]; exact Or.inl ⟨rfl, x, rfl, hx⟩) hap (by rw [sx_sl1 g0]; exact e1) e3
            rw [show ((y.toNatClampNeg : Nat) : Int) = b.2 by omega] at x2
            exact kk H' _ r2 ⟨x1, x2, hV.put e2 e3 (k7 c2 c3), hL, hs2⟩
        · cases h
      · cases h
    · cases h
  · split at h
    · rename_i a rest
      obtain ⟨w1, r1, rfl, h1, hs1⟩ := pm_S_cons hS
      split at h
      · rename_i g ha hg
        obtain ⟨ad, rfl, k2⟩ := pm_v_ref h1 (Nat.eq_of_beq_eq_true ha)
        obtain ⟨cell, k4, k5, k6, k7, -⟩ := pm_cell hH k2 hg
        split at h
        · rename_i hc
          simp only [sx_ab_eq, Bool.and_eq_true] at hc
          obtain ⟨hg1, c2⟩ := hc
          have hg1 := Nat.eq_of_beq_eq_true hg1
          have c2 := Nat.blt_eq.mp c2
          cases h
          obtain ⟨hxx, hb0, -, hown, -⟩ := hC
          rcases k5 with ⟨q2, -⟩ | ⟨q2, q3, q4, q5, q6⟩
          · omega
          · exact W.alen (n := Int32.ofNat g.2.1) hxx hb0 k4 q3 q6.1 rfl rfl hd (kk H locs _ ⟨hH, hM, hV, hL, Or.inl ⟨rfl, _, rfl, Int32.toInt_ofNat_of_lt c2⟩, hs1⟩)
        · cases h
      · cases h
    · cases h
  · cases h
theorem pm_do_ok {d : sx_Da} {s' : pm_St} {Φ : List Prop} (hF : sx_Frm D cl AO TB b0 M bud p R s m args meth c) (hp : sx_prog cl RT CJ AO TB MT CDs) (hrk : pm_rtk RT) (hM : M ∈ MT.flatten) (hdd : CDs[M.2.2.1.1]? = some d) (hd : decode M.1.2.1 pc = .ok (i, len)) (h : pm_do d.2.1 RT Wm M.1.2.2.1 wr pc i len lv st μ = some (s', Φ)) (hΦ : pm_all Φ) (hP : pm_P D cl RT Wm b0 Sg s M.1.2.2.1 lv st μ H locs ls stk)
    (kk : ∀ H' locs' ls' stk', pm_P D cl RT Wm b0 Sg s M.1.2.2.1 s'.2.1 s'.2.2.1 s'.2.2.2 H' locs' ls' stk' → W p l e R s m args below meth c H' locs' nc ns Q (F0 m s'.1 ls' stk')) : W p l e R s m args below meth c H locs nc ns Q (F0 m pc ls stk) := by
  obtain ⟨hg, hcl, hRT, hCJ, hai, hal, hMT, hDA⟩ := hp
  obtain ⟨hCx, hKs, hb0, r1, r2, r3, r4, hini, hret, hlocks, hZS⟩ := hF
  obtain ⟨mo1, mo2, mo4, mo5, mo6⟩ := hMT M hM
  have hdn := mo5 d hdd
  obtain ⟨hcd, -⟩ := hDA d (List.mem_of_getElem? hdd) args s hCx.2.2.2.2 hKs.2.1
  rw [hdn] at hcd
  obtain ⟨cd1, cd2, cd3, cd4, cd5⟩ := hcd
  have hP0 := hP
  obtain ⟨hH, hm, hV, hL, hS⟩ := hP
  unfold pm_do at h
  split at h
  · rename_i n v hc
    split at h
    · rename_i hn
      obtain rfl := Nat.eq_of_beq_eq_true hn
      cases h
      exact pm_con_ok hCx cd1 hc hd (fun x hx => kk H locs ls _ ⟨hH, hm, hV, hL, Or.inl ⟨rfl, x, rfl, hx⟩, hS⟩)
    · cases h
  · split at h
    · rename_i n pc' lv' st' Φ' hl
      split at h
      · rename_i hn
        obtain rfl := Nat.eq_of_beq_eq_true hn
        cases h
        exact pm_loc_ok hCx hl hΦ hL hS hd (fun ls' stk' h1 h2 => kk H locs ls' stk' ⟨hH, hm, hV, h1, h2⟩)
      · cases h
    · split at h
      · rename_i n st' μ' Φ' hh
        split at h
        · rename_i hn
          obtain rfl := Nat.eq_of_beq_eq_true hn
          cases h
          exact pm_heap_ok hCx hKs.1 hcl hRT hrk cd3 hh hΦ hP0 hd (fun H' locs' stk' h1 => kk H' locs' ls stk' h1)
        · cases h
      · split at h
        · rename_i b a rest
          split at h
          · rename_i z Φ' hc hb
            cases h
            simp only [sx_ab_eq, Bool.and_eq_true] at hc
            obtain ⟨c1, c2, c3⟩ := hc
            have c1 := Nat.eq_of_beq_eq_true c1
            have c2 := Nat.eq_of_beq_eq_true c2
            obtain rfl := Nat.eq_of_beq_eq_true c3
            obtain ⟨w1, t1, rfl, h1, hs1⟩ := pm_S_cons hS
            obtain ⟨w2, t2, rfl, h2, hs2⟩ := pm_S_cons hs1
            obtain ⟨y, rfl, hy⟩ := pm_v_int h1 c1
            obtain ⟨x, rfl, hx⟩ := pm_v_int h2 c2
            exact pm_bin_ok hCx hb hΦ hx hy hd (fun w hw => kk H locs ls _ ⟨hH, hm, hV, hL, Or.inl ⟨rfl, w, rfl, hw⟩, hs2⟩)
          · cases h
        · cases h
end PMD2
/-- from a point the machine comes to one of which X tells -/
def pm_W (D : va_G) (cl : List vw_C) (RT : Nat → Option sx_Rg) (Wm : Nat) (AO : sx_Ao) (TB : List Cond) (b0 : sx_B) (l : Launch) (Sg : Nat → Option Nat) (M : sx_Me) (bud : sx_Bu) (X : Nat → List pm_V → List pm_V → pm_Mem → Prop) (pc : Nat) (lv st : List pm_V) (μ : pm_Mem) : Prop :=
  ∀ (p : Program) (e : Env) (R : Room) (s : State) (m : MethodId) (args : Array Value) (below : List Frame) (meth : Method) (c : Code) (Q : State → Prop) (H : Heap) (locs : List Loc) (ls : Array Slot) (stk : List Value), sx_Frm D cl AO TB b0 M bud p R s m args meth c → pm_P D cl RT Wm b0 Sg s M.1.2.2.1 lv st μ H locs ls stk →
    (∀ (pc' : Nat) (lv' st' : List pm_V) (μ' : pm_Mem) (H' : Heap) (locs' : List Loc) (ls' : Array Slot) (stk' : List Value), X pc' lv' st' μ' → pm_P D cl RT Wm b0 Sg s M.1.2.2.1 lv' st' μ' H' locs' ls' stk' → W p l e R s m args below meth c H' locs' 0 0 Q (F0 m pc' ls' stk')) →
    W p l e R s m args below meth c H locs 0 0 Q (F0 m pc ls stk)
section PMW
variable {D : va_G} {cl : List vw_C} {RT : Nat → Option sx_Rg} {Wm : Nat} {AO : sx_Ao} {TB : List Cond} {CJ : List (List Nat)} {MT : List (List sx_Me)} {CDs : List sx_Da} {b0 : sx_B} {l : Launch} {Sg : Nat → Option Nat} {M : sx_Me} {bud : sx_Bu} {X Y : Nat → List pm_V → List pm_V → pm_Mem → Prop} {pc : Nat} {lv st : List pm_V} {μ : pm_Mem} {d : sx_Da}
theorem pm_exit (h : X pc lv st μ) : pm_W D cl RT Wm AO TB b0 l Sg M bud X pc lv st μ := fun p e R s m args below meth c Q H locs ls stk hF hP K => K pc lv st μ H locs ls stk h hP
theorem pm_then (h : pm_W D cl RT Wm AO TB b0 l Sg M bud X pc lv st μ) (k : ∀ pc' lv' st' μ', X pc' lv' st' μ' → pm_W D cl RT Wm AO TB b0 l Sg M bud Y pc' lv' st' μ') : pm_W D cl RT Wm AO TB b0 l Sg M bud Y pc lv st μ := fun p e R s m args below meth c Q H locs ls stk hF hP K =>
  h p e R s m args below meth c Q H locs ls stk hF hP (fun pc' lv' st' μ' H' locs' ls' stk' hX hP' => k pc' lv' st' μ' hX p e R s m args below meth c Q H' locs' ls' stk' hF hP' K)
/-- what a method's tables tell, for its walks -/
def pm_K (cl : List vw_C) (RT : Nat → Option sx_Rg) (CJ : List (List Nat)) (AO : sx_Ao) (TB : List Cond) (MT : List (List sx_Me)) (CDs : List sx_Da) : Prop := sx_prog cl RT CJ AO TB MT CDs ∧ pm_rtk RT
def pm_m (MT : List (List sx_Me)) (CDs : List sx_Da) (M : sx_Me) (d : sx_Da) : Prop := M ∈ MT.flatten ∧ CDs[M.2.2.1.1]? = some d
theorem pm_runs (hK : pm_K cl RT CJ AO TB MT CDs) (hm : pm_m MT CDs M d) (ws : List Nat) : ∀ (n : Nat) {pc : Nat} {lv st : List pm_V} {μ : pm_Mem} {s' : pm_St} {Φ : List Prop}, pm_run d.2.1 RT Wm M.2.1 M.1.2.2.1 ws n pc lv st μ = some (s', Φ) → pm_all Φ → pm_W D cl RT Wm AO TB b0 l Sg M bud X s'.1 s'.2.1 s'.2.2.1 s'.2.2.2 → pm_W D cl RT Wm AO TB b0 l Sg M bud X pc lv st μ
  | 0, pc, lv, st, μ, s', Φ, h, _, k => by
    simp only [pm_run] at h
    cases h
    exact k
  | n + 1, pc, lv, st, μ, s', Φ, h, hΦ, k => by
    simp only [pm_run] at h
    split at h
    · rename_i w i len hrow
      split at h
      · rename_i pc1 lv1 st1 μ1 Φ1 h1
        split at h
        · rename_i s2 Φ2 h2
          cases h
          obtain ⟨f1, f2⟩ := pm_all_app hΦ
          obtain ⟨⟨cc, hcc, hrm⟩, hpc0⟩ := sx_row_ok hrow
          have hpc0 : w = pc := hpc0
          subst hpc0
          have hdec := ((hK.1.2.2.2.2.2.2.1 M hm.1).1 cc hcc _ hrm)
          intro p e R s m args below meth c Q H locs ls stk hF hP K
          refine pm_do_ok hF hK.1 hK.2 hm.1 hm.2 hdec h1 f1 hP (fun H' locs' ls' stk' hP' => ?_)
          exact pm_runs hK hm ws n h2 f2 k p e R s m args below meth c Q H' locs' ls' stk' hF hP' K
        · cases h
      · cases h
    · cases h
/-- n steps -/
theorem pm_blk (hK : pm_K cl RT CJ AO TB MT CDs) (hm : pm_m MT CDs M d) (ws : List Nat) (n : Nat) (pc' : Nat) (lv' st' : List pm_V) (μ' : pm_Mem) (Φ : List Prop) (h : pm_run d.2.1 RT Wm M.2.1 M.1.2.2.1 ws n pc lv st μ = some ((pc', lv', st', μ'), Φ)) (hΦ : pm_all Φ) (k : pm_W D cl RT Wm AO TB b0 l Sg M bud X pc' lv' st' μ') : pm_W D cl RT Wm AO TB b0 l Sg M bud X pc lv st μ :=
  pm_runs hK hm ws n h hΦ k
theorem pm_row (hK : pm_K cl RT CJ AO TB MT CDs) (hm : pm_m MT CDs M d) {i : Instr} {len : Nat} (h : sx_row M.2.1 pc = some (pc, i, len)) : decode M.1.2.1 pc = .ok (i, len) := pv_row (hK.1.2.2.2.2.2.2.1 M hm.1).1 h
theorem pm_icmp (hK : pm_K cl RT CJ AO TB MT CDs) (hm : pm_m MT CDs M d) (cd : ClassFile.Cond) (off : Int) (t : Nat) {x y : Int} {rest : List pm_V} (h : sx_row M.2.1 pc = some (pc, .if_icmp cd off, 3)) (ht : sx_tgt pc off = some t)
    (kt : sx_holds cd x y → pm_W D cl RT Wm AO TB b0 l Sg M bud X t lv rest μ) (kf : sx_holds (sx_opp cd) x y → pm_W D cl RT Wm AO TB b0 l Sg M bud X (pc + 3) lv rest μ) : pm_W D cl RT Wm AO TB b0 l Sg M bud X pc lv ((0, y) :: (0, x) :: rest) μ := by
  intro p e R s m args below meth c Q H locs ls stk hF hP K
  obtain ⟨hH, hM, hV, hL, hS⟩ := hP
  obtain ⟨w1, t1, rfl, h1, hs1⟩ := pm_S_cons hS
  obtain ⟨w2, t2, rfl, h2, hs2⟩ := pm_S_cons hs1
  obtain ⟨y', rfl, rfl⟩ := pm_v_int h1 rfl
  obtain ⟨x', rfl, rfl⟩ := pm_v_int h2 rfl
  exact sx_icmp_W hF.1 (pm_row hK hm h) (sx_tgt_ok ht) (fun hc => kt hc p e R s m args below meth c Q H locs ls _ hF ⟨hH, hM, hV, hL, hs2⟩ K) (fun hc => kf hc p e R s m args below meth c Q H locs ls _ hF ⟨hH, hM, hV, hL, hs2⟩ K)
theorem pm_if (hK : pm_K cl RT CJ AO TB MT CDs) (hm : pm_m MT CDs M d) (cd : ClassFile.Cond) (off : Int) (t : Nat) {x : Int} {rest : List pm_V} (h : sx_row M.2.1 pc = some (pc, .ifCond cd off, 3)) (ht : sx_tgt pc off = some t)
    (kt : sx_holds cd x 0 → pm_W D cl RT Wm AO TB b0 l Sg M bud X t lv rest μ) (kf : sx_holds (sx_opp cd) x 0 → pm_W D cl RT Wm AO TB b0 l Sg M bud X (pc + 3) lv rest μ) : pm_W D cl RT Wm AO TB b0 l Sg M bud X pc lv ((0, x) :: rest) μ := by
  intro p e R s m args below meth c Q H locs ls stk hF hP K
  obtain ⟨hH, hM, hV, hL, hS⟩ := hP
  obtain ⟨w1, t1, rfl, h1, hs1⟩ := pm_S_cons hS
  obtain ⟨x', rfl, rfl⟩ := pm_v_int h1 rfl
  exact sx_if_W hF.1 (pm_row hK hm h) (sx_tgt_ok ht) (fun hc => kt hc p e R s m args below meth c Q H locs ls _ hF ⟨hH, hM, hV, hL, hs1⟩ K) (fun hc => kf hc p e R s m args below meth c Q H locs ls _ hF ⟨hH, hM, hV, hL, hs1⟩ K)
end PMW
/-- locals that are forgotten -/
def pm_hd : List Nat → List pm_V → List pm_V
  | [], lv => lv
  | i :: is, lv => pm_hd is (lv.set i (9, 0))
theorem pm_hd_ok {Sg : Nat → Option Nat} {nL : Nat} {ls : Array Slot} : ∀ (is : List Nat) {lv : List pm_V}, pm_L Sg nL lv ls → pm_L Sg nL (pm_hd is lv) ls
  | [], lv, h => h
  | i :: is, lv, h => by
    refine pm_hd_ok is ⟨h.1, h.2.1, fun j a hj ha => ?_⟩
    by_cases hji : j = i
    · subst hji
      rw [List.getElem?_set] at hj
      by_cases hlt : j < lv.length
      · rw [if_pos rfl, if_pos hlt] at hj
        cases hj
        exact absurd rfl ha
      · rw [if_pos rfl, if_neg hlt] at hj
        cases hj
    · rw [List.getElem?_set_ne (Ne.symm hji)] at hj
      exact h.2.2 j a hj ha
theorem pm_hide {D : va_G} {cl : List vw_C} {RT : Nat → Option sx_Rg} {Wm : Nat} {AO : sx_Ao} {TB : List Cond} {b0 : sx_B} {l : Launch} {Sg : Nat → Option Nat} {M : sx_Me} {bud : sx_Bu} {X : Nat → List pm_V → List pm_V → pm_Mem → Prop} {pc : Nat} {lv st : List pm_V} {μ : pm_Mem} (is : List Nat) (h : pm_W D cl RT Wm AO TB b0 l Sg M bud X pc (pm_hd is lv) st μ) : pm_W D cl RT Wm AO TB b0 l Sg M bud X pc lv st μ :=
  fun p e R s m args below meth c Q H locs ls stk hF hP K => h p e R s m args below meth c Q H locs ls stk hF ⟨hP.1, hP.2.1, hP.2.2.1, pm_hd_ok is hP.2.2.2.1, hP.2.2.2.2⟩ K
