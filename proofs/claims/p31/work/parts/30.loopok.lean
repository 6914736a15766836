/-! sx, the truth of loops -/
def sx_mu (a : sx_Al) (ρ : List Value) : Nat := match sx_pos a.2.2.1.1 a.2.1 with
  | some k => match a.2.1[k]?, sx_iv ρ (a.2.2.2.1.1.1.length + k) with
    | some q, some x => if a.2.2.1.2 = 0 then (q.2.2.2 - x).toNat else (x - q.2.2.1).toNat
    | _, _ => 0
  | none => 0
theorem sx_pos_ok : ∀ (ms : List (Nat × sx_Ty)) (j k : Nat), sx_pos j ms = some k → ∃ q, ms[k]? = some q ∧ q.1 = j
  | [], j, k, h => by simp [sx_pos] at h
  | q :: ms, j, k, h => by
    simp only [sx_pos] at h
    split at h
    · rename_i hq
      cases h
      exact ⟨q, rfl, hq⟩
    · split at h
      · rename_i k' hk'
        cases h
        obtain ⟨r, h1, h2⟩ := sx_pos_ok ms j k' hk'
        exact ⟨r, by simpa using h1, h2⟩
      · cases h
section SX15
variable {FT : Nat → List Int → Int} {D : va_G} {cl : List vw_C} {RT : Nat → Option sx_Rg} {b0 : sx_B} {nL : Nat} {p : Program} {l : Launch} {e : Env} {R : Room} {s : State} {m : MethodId} {args : Array Value} {below : List Frame} {meth : Method} {c : Code} {Q : State → Prop}
  {Sg0 : Nat → Option Nat} {ρ0 : List Value}
def sx_LOK (FT : Nat → List Int → Int) (D : va_G) (cl : List vw_C) (RT : Nat → Option sx_Rg) (b0 : sx_B) (nL : Nat) (p : Program) (l : Launch) (e : Env) (R : Room) (s : State) (m : MethodId) (args : Array Value) (below : List Frame) (meth : Method) (c : Code) (Q : State → Prop) (Sg0 : Nat → Option Nat) (ρ0 : List Value) (a : sx_Al) : Prop :=
  ∃ (Sgl : Nat → Option Nat) (Hl : Heap) (ρl stkl : List Value), sx_le Sgl Sg0 ∧ ρl <+: ρ0 ∧ sx_G FT D RT Sgl Hl ρl a.2.2.2.1 ∧ (∀ q ∈ a.2.2.2.2.1, ∃ v, sx_av ρl q.2 v) ∧ sx_stk ρl a.2.2.2.2.2.1 stkl ∧ (∀ q ∈ a.2.2.2.2.2.2.2.2.1, ∃ n, sx_lf ρl q.2.2.2.2 = some n) ∧ (∀ (k : Nat) (q : Nat × sx_Ty), a.2.1[k]? = some q → ∃ x, sx_iv ρ0 (a.2.2.2.1.1.1.length + k) = some x ∧ q.2.2.1 ≤ x ∧ x ≤ q.2.2.2) ∧
    ∀ (Sg : Nat → Option Nat) (H : Heap) (ρ : List Value) (ls : Array Slot) (stk : List Value) (locs : List Loc), sx_le Sgl Sg → ρl <+: ρ → sx_Pt FT D cl RT b0 nL s Sg H ρ (sx_head a).1 (sx_head a).2.1.1 (sx_head a).2.1.2 ls stk locs → sx_mu a ρ < sx_mu a ρ0 → W p l e R s m args below meth c H locs (sx_head a).2.2.1 (sx_head a).2.2.2 Q (F0 m a.1 ls stk)
/-- the kept facts of one heap hold on another, where the other tells them too -/
theorem sx_fact_back {Sgl Sg : Nat → Option Nat} {Hl H : Heap} {ρl ρ : List Value} {q : Nat × Nat × sx_AV} (hle : sx_le Sgl Sg) (hpre : ρl <+: ρ) (h1 : sx_fact D RT Sgl Hl ρl q) (h2 : sx_fact D RT Sg H ρ q) : sx_fact D RT Sg H ρl q := by
  obtain ⟨a, r, g, cell, v, e1, e2, e3, e4, ⟨i, e5, e5'⟩, e6, e7⟩ := h1
  obtain ⟨a', r', g', cell', v', m1, m2, m3, m4, ⟨j, m5, m5'⟩, m6, m7⟩ := h2
  rw [sx_av_det m7 (sx_av_pre hpre e7), sx_ixn_eq m5] at m6
  have hij : i = j := by
    obtain ⟨t, rfl⟩ := hpre
    exact Option.some.inj ((sx_ix_ext e5).symm.trans m5)
  subst hij
  exact ⟨a', r', g', cell', v, m1, m2, m3, m4, ⟨i, e5, m5'⟩, by rw [sx_ixn_eq e5]; exact m6, e7⟩
theorem sx_all_back {Sgl Sg : Nat → Option Nat} {Hl H : Heap} {ρl ρ : List Value} {q : Nat × sx_Ty × List Nat} (hle : sx_le Sgl Sg) (hpre : ρl <+: ρ) (h1 : sx_all D RT Sgl Hl ρl q) (h2 : sx_all D RT Sg H ρ q) : sx_all D RT Sg H ρl q := by
  exact h2
/-- a point of the head's state, out of values for the changed locals -/
theorem sx_headP {a : sx_Al} {Sgl Sg : Nat → Option Nat} {Hl H : Heap} {ρl ρ stkl vals : List Value} {ls : Array Slot} {stk : List Value} {locs : List Loc} {L : List (Nat × sx_AV)} (hle : sx_le Sgl Sg) (hpre : ρl <+: ρ) (hG : sx_G FT D RT Sgl Hl ρl a.2.2.2.1) (hLk : ∀ q ∈ a.2.2.2.2.1, ∃ v, sx_av ρl q.2 v) (hSl : sx_stk ρl a.2.2.2.2.2.1 stkl) (hLF : ∀ q ∈ a.2.2.2.2.2.2.2.2.1.map (sx_lkF a.2.2.2.1.1.1.length), sx_fact D RT Sg H (ρl ++ vals) q)
    (hH : sx_H D cl RT b0 Sg s H) (hF : ∀ q ∈ a.2.2.2.1.2.1, sx_fact D RT Sg H ρ q) (hA : ∀ q ∈ a.2.2.2.1.2.2.1, sx_all D RT Sg H ρ q) (hsz : ls.size = nL) (hwf : lv_wf ls) (hL : ∀ q ∈ L, ∃ v, sx_av ρ q.2 v ∧ ls[q.1]? = some (.val v)) (hsub : ∀ q ∈ a.2.2.2.2.1, q ∈ L) (hS : sx_stk ρ a.2.2.2.2.2.1 stk) (hV : sx_V RT b0 s Sg H locs) {E : List sx_Ty} {C : List sx_LF} (hE : sx_env Sg E ρ) (hCs : sx_cs C ρ) (hco : sx_cok E C L a.2.2.2.2.2.2.2.2.2 = true)
    (hfr : ∀ x r, Sg x = some r → r < a.2.2.2.1.2.2.2) (hvl : vals.length = a.2.1.length) (hv : ∀ (k : Nat) (q : Nat × sx_Ty), a.2.1[k]? = some q → ∃ x : Int32, vals[k]? = some (.int x) ∧ sx_ok Sg (.int x) q.2 ∧ ls[q.1]? = some (.val (.int x))) :
    sx_Pt FT D cl RT b0 nL s Sg H (ρl ++ vals) (sx_head a).1 (sx_head a).2.1.1 (sx_head a).2.1.2 ls stk locs := by
  obtain ⟨g1, g2, g3, g4, g5, g6⟩ := hG
  have hEl : sx_env Sg a.2.2.2.1.1.1 ρl := ⟨g1.1, fun z t v hz hv => sx_ok_le hle (g1.2 z t v hz hv)⟩
  have hdL : ∀ q ∈ sx_hdL a, ∃ v, sx_av (ρl ++ vals) q.2 v ∧ ls[q.1]? = some (.val v) := by
    intro q hq
    have hq : q ∈ sx_mL a.2.2.2.1.1.1.length a.2.1 ++ a.2.2.2.2.1 := hq
    rcases List.mem_append.mp hq with hq | hq
    · obtain ⟨k, y, hy, rfl⟩ := sx_mL_mem _ _ _ hq
      obtain ⟨x, x1, x2, x3⟩ := hv k y hy
      refine ⟨.int x, sx_int_av (sx_sym_ok ?_), x3⟩
      unfold sx_iv
      rw [List.getElem?_append_right (by rw [g1.1]; omega), g1.1, Nat.add_sub_cancel_left, x1]
    · obtain ⟨v, v1⟩ := hLk q hq
      obtain ⟨w, w1, w2⟩ := hL q (hsub q hq)
      rw [sx_av_det w1 (sx_av_pre hpre v1)] at w2
      exact ⟨v, sx_av_ext v1, w2⟩
  refine ⟨hH, ⟨?_, ?_, ?_, ?_, ?_, ?_, hfr⟩, ⟨hsz, hwf, hdL, ?_⟩, hV⟩
  · exact sx_env_app hEl hvl (fun k q hq => by obtain ⟨x, x1, x2, -⟩ := hv k q hq; exact ⟨_, x1, x2⟩)
  · intro f hf
    have hf : f ∈ sx_hcs (sx_hdL a) a.2.2.2.2.2.2.2.2.2 ++ a.2.2.2.1.1.2.1 := hf
    rcases List.mem_append.mp hf with hf | hf
    · exact sx_hcs_ok hE hCs hL hdL hco f hf
    · exact sx_cs_ext g2 f hf
  · intro f hf
    obtain ⟨n, h1, h2⟩ := g3 f hf
    exact ⟨n, sx_lf_ext h1, h2⟩
  · exact fun q hq => sx_fun_ext (g4 q hq)
  · intro q hq
    have hq : q ∈ a.2.2.2.2.2.2.2.2.1.map (sx_lkF a.2.2.2.1.1.1.length) ++ a.2.2.2.1.2.1 := hq
    rcases List.mem_append.mp hq with hq | hq
    · exact hLF q hq
    · exact sx_fact_ext (sx_fact_back hle hpre (g5 q hq) (hF q hq))
  · exact fun q hq => sx_all_ext (sx_all_back hle hpre (g6.1 q hq) (hA q hq))
  · have : stk = stkl := sx_stk_det hS (sx_stk_pre hpre hSl)
    subst this
    exact sx_stk_ext hSl
theorem sx_lf_pre {ρ ρ' : List Value} (h : ρ <+: ρ') {f : sx_LF} {n : Int} (hn : sx_lf ρ f = some n) : sx_lf ρ' f = some n := by
  obtain ⟨t, rfl⟩ := h
  exact sx_lf_ext hn
/-- a slot that goes with a changed local -/
theorem sx_link {Sg : Nat → Option Nat} {H : Heap} {ρ ρl vals : List Value} {r k i n0 : Nat} {co : Int} {h base : sx_LF} {n : Int} {x : Int32} (hk20 : Nat.blt k 1048576 = true) (hf : sx_fact D RT Sg H ρ (r, k, (0, h))) (hv : sx_lf ρ h = some (n + co * x.toInt)) (hn : sx_lf ρl base = some n) (hl : ρl.length = n0) (hx : vals[i]? = some (.int x)) : sx_fact D RT Sg H (ρl ++ vals) (sx_lkF n0 (r, k, i, co, base)) := by
  obtain ⟨a, r', g, cell, v, h1, h2, h3, h4, ⟨jj, h5, h5'⟩, h6, h7⟩ := hf
  have h1 : r = r' := h1
  subst h1
  have h5 : sx_ix ρ k = some jj := h5
  have hjk := sx_ix_con' hk20 h5
  subst hjk
  have h6 : cell.slots[sx_sl D g (sx_ixn ρ jj)]? = some v := h6
  rw [sx_ixn_eq h5] at h6
  refine sx_fact_mk (sx_ix_con hk20) h2 h3 h4 h5' h6 ?_
  obtain ⟨y, rfl, hy⟩ := sx_av_int h7
  refine sx_int_av ?_
  have hs : sx_lf (ρl ++ vals) (0, [(n0 + i, 1)]) = some x.toInt := sx_sym_ok (by
    unfold sx_iv
    rw [List.getElem?_append_right (by omega), hl, Nat.add_sub_cancel_left, hx])
  show sx_lf (ρl ++ vals) (sx_add base (sx_mul co (0, [(n0 + i, 1)]))) = _
  rw [sx_add_ok (sx_lf_ext hn) (sx_mul_ok hs), ← hv, hy]
theorem sx_back_ok {a : sx_Al} {st : sx_St} (h : sx_back a st = true) (hL : sx_LOK FT D cl RT b0 nL p l e R s m args below meth c Q Sg0 ρ0 a) : sx_W FT D cl RT b0 nL p l e R s m args below meth c Q Sg0 ρ0 a.1 st := by
  obtain ⟨⟨⟨E, C, N, U⟩, FA⟩, ⟨L, S⟩, nc, ns⟩ := st
  intro Sg H ρ ls stk locs hle hpre hP
  obtain ⟨Sgl, Hl, ρl, stkl, l1, l2, l3, l4, l5, l8, l6, l7⟩ := hL
  unfold sx_back at h
  simp only [Bool.and_eq_true, decide_eq_true_eq, beq_iff_eq] at h
  obtain ⟨⟨⟨⟨⟨⟨⟨⟨⟨⟨h1, hco⟩, h2⟩, h3⟩, h4⟩, h5⟩, h6⟩, h7⟩, h8⟩, h10⟩, h9⟩ := h
  obtain ⟨hH, hG, hF, hV⟩ := hP
  have hG1 : sx_env Sg E ρ := hG.1
  have hG2 : sx_cs C ρ := hG.2.1
  obtain ⟨vals, v1, v2⟩ := sx_vals hG1 hG2 hF.2.2.1 a.2.1 h1
  have hple : sx_le Sgl Sg := sx_le_trans l1 hle
  have hppre : ρl <+: ρ := l2.trans hpre
  have hsub1 : ∀ q ∈ a.2.2.2.1.2.1, q ∈ FA.1 := fun q hq => (List.isSublist_iff_sublist.mp h4).subset hq
  have hsub2 : ∀ q ∈ a.2.2.2.1.2.2.1, q ∈ FA.2.1 := fun q hq => (List.isSublist_iff_sublist.mp h5).subset hq
  have hLF : ∀ q ∈ a.2.2.2.2.2.2.2.2.1.map (sx_lkF a.2.2.2.1.1.1.length), sx_fact D RT Sg H (ρl ++ vals) q := fun q hq => by
    obtain ⟨y, hy, rfl⟩ := List.mem_map.mp hq
    obtain ⟨n, hn⟩ := l8 y hy
    have hb := List.all_eq_true.mp h10 y hy
    split at hb
    · rename_i z hz
      split at hb
      · rename_i v h hv hh
        simp only [Bool.and_eq_true, beq_iff_eq, decide_eq_true_eq] at hb
        obtain ⟨hb0, hb⟩ := hb
        obtain ⟨x, b, x1, x2, x3, x4, x5, x6, x7⟩ := v2 y.2.2.1 z hz
        rw [hv] at x5
        cases x5
        obtain ⟨ht, hf⟩ := h
        obtain ⟨hb1, hb2⟩ := hb
        have hb1 : ht = 0 := hb1
        have hb2 : hf = sx_add y.2.2.2.2 (sx_mul y.2.2.2.1 v.2) := hb2
        subst hb1; subst hb2
        refine sx_link hb0 (hG.2.2.2.2.1 _ (sx_fget_mem hh)) (sx_add_ok (sx_lf_pre hppre hn) (sx_mul_ok x7)) hn l3.1.1 x1
      · cases hb
    · cases hb
  have hPt : sx_Pt FT D cl RT b0 nL s Sg H (ρl ++ vals) (sx_head a).1 (sx_head a).2.1.1 (sx_head a).2.1.2 ls stk locs := by
    refine sx_headP (L := L) hple hppre l3 l4 l5 hLF hH (fun q hq => hG.2.2.2.2.1 q (hsub1 q hq)) (fun q hq => hG.2.2.2.2.2.1 q (hsub2 q hq)) hF.1 hF.2.1 hF.2.2.1 (fun q hq => ?_) (by rw [← h3]; exact hF.2.2.2) hV hG1 hG2 hco (by rw [← h6]; exact hG.2.2.2.2.2.2) v1 (fun k q hq => ?_)
    · have := List.all_eq_true.mp h2 q hq
      exact of_decide_eq_true this
    · obtain ⟨x, b, x1, x2, x3, x4, -⟩ := v2 k q hq
      exact ⟨x, x1, x2, x4⟩
  have hmu : sx_mu a (ρl ++ vals) < sx_mu a ρ0 := by
    split at h9
    · rename_i k v hk hv
      obtain ⟨q, q1, q2⟩ := sx_pos_ok _ _ _ hk
      obtain ⟨x, b, x1, x2, x3, x4, x5, x6, x7⟩ := v2 k q q1
      rw [q2, hv] at x5
      cases x5
      obtain ⟨y, y1, y2, y3⟩ := l6 k q q1
      have hyρ : sx_iv ρ (a.2.2.2.1.1.1.length + k) = some y := sx_iv_det hpre y1
      have hxi : sx_iv (ρl ++ vals) (a.2.2.2.1.1.1.length + k) = some x.toInt := by
        unfold sx_iv
        rw [List.getElem?_append_right (by rw [l3.1.1]; omega), l3.1.1, Nat.add_sub_cancel_left, x1]
      have hxb : q.2.2.1 ≤ x.toInt ∧ x.toInt ≤ q.2.2.2 := by
        rcases x2 with ⟨-, z, hz, z1, z2⟩ | ⟨z0, -⟩ | ⟨z0, -⟩ | ⟨z0, -⟩
        · cases hz; exact ⟨z1, z2⟩
        · omega
        · omega
        · omega
      unfold sx_mu
      rw [hk]
      simp only
      rw [q1, hxi, y1]
      simp only
      split at h9
      · rename_i hdir
        have hge := sx_ge_ok hG1 hG2 (sx_addC_ok (c := -1) (sx_sub_ok x7 (sx_sym_ok hyρ))) h9
        rw [if_pos hdir, if_pos hdir]
        omega
      · rename_i hdir
        have hge := sx_ge_ok hG1 hG2 (sx_addC_ok (c := -1) (sx_sub_ok (sx_sym_ok hyρ) x7)) h9
        rw [if_neg hdir, if_neg hdir]
        omega
    · cases h9
  have := l7 Sg H (ρl ++ vals) ls stk locs hple (List.prefix_append ρl vals) hPt hmu
  rw [h7, h8]
  exact this
theorem sx_mkL_ok {Sg : Nat → Option Nat} {H : Heap} {ρ vals : List Value} {F : List (Nat × Nat × sx_AV)} {L : List (Nat × sx_AV)} {ms : List (Nat × sx_Ty)} {ls : Array Slot} (hL : ∀ q ∈ L, ∃ v, sx_av ρ q.2 v ∧ ls[q.1]? = some (.val v)) (hF : ∀ q ∈ F, sx_fact D RT Sg H ρ q) (v1 : vals.length = ms.length)
    (v2 : ∀ (k : Nat) (q : Nat × sx_Ty), ms[k]? = some q → ∃ (x : Int32) (a : sx_AV), vals[k]? = some (.int x) ∧ sx_ok Sg (.int x) q.2 ∧ q.2.1 = 0 ∧ ls[q.1]? = some (.val (.int x)) ∧ sx_lk L q.1 = some a ∧ a.1 = 0 ∧ sx_lf ρ a.2 = some x.toInt) : ∀ (qs : List (Nat × Nat × Nat × Int)) (rs : List (Nat × Nat × Nat × Int × sx_LF)), sx_mkL F L ms qs = some rs →
    ∀ y ∈ rs, ∃ n, sx_lf ρ y.2.2.2.2 = some n ∧ ∃ (h : sx_LF) (x : Int32), Nat.blt y.2.1 1048576 = true ∧ sx_fact D RT Sg H ρ (y.1, y.2.1, (0, h)) ∧ sx_lf ρ h = some (n + y.2.2.2.1 * x.toInt) ∧ vals[y.2.2.1]? = some (.int x)
  | [], rs, h, y, hy => by
    simp only [sx_mkL] at h
    cases h
    simp at hy
  | q :: qs, rs, h, y, hy => by
    simp only [sx_mkL] at h
    split at h
    · rename_i hh k v rs' e1 e2 e3 e4
      split at h
      · rename_i hc
        obtain ⟨c1, c2, c20⟩ := hc
        cases h
        rcases List.mem_cons.mp hy with rfl | hy
        · obtain ⟨z, q1, q2⟩ := sx_pos_ok _ _ _ e2
          obtain ⟨x, b, x1, x2, x3, x4, x5, x6, x7⟩ := v2 k z q1
          rw [q2, e3] at x5
          cases x5
          obtain ⟨ht, hf⟩ := hh
          have c1 : ht = 0 := c1
          subst c1
          have hfact := hF _ (sx_fget_mem e1)
          obtain ⟨a, r', g, cell, w, h1, h2, h3, h4, h5, h6, h7⟩ := hfact
          obtain ⟨y', rfl, hy'⟩ := sx_av_int h7
          refine ⟨y'.toInt - q.2.2.2 * x.toInt, sx_sub_ok hy' (sx_mul_ok x7), hf, x, c20, ⟨a, r', g, cell, _, h1, h2, h3, h4, h5, h6, h7⟩, ?_, x1⟩
          rw [hy']
          show some y'.toInt = some (y'.toInt - q.2.2.2 * x.toInt + q.2.2.2 * x.toInt)
          congr 1
          omega
        · exact sx_mkL_ok hL hF v1 v2 qs rs' e4 y hy
      · cases h
    · cases h
theorem sx_enter_ok {q : sx_Lp} {st : sx_St} {a : sx_Al} (h : sx_enter q st = some a)
    (hB : ∀ (Sg1 : Nat → Option Nat) (ρ1 : List Value), sx_le Sg0 Sg1 → ρ0 <+: ρ1 → sx_LOK FT D cl RT b0 nL p l e R s m args below meth c Q Sg1 ρ1 a → sx_W FT D cl RT b0 nL p l e R s m args below meth c Q Sg1 ρ1 q.1 (sx_head a)) : sx_W FT D cl RT b0 nL p l e R s m args below meth c Q Sg0 ρ0 q.1 st := by
  obtain ⟨⟨⟨E, C, N, U⟩, FA⟩, ⟨L, S⟩, nc, ns⟩ := st
  intro Sg H ρ ls stk locs hle hpre hP
  unfold sx_enter at h
  simp only at h
  split at h
  · rename_i hm
    simp only [Bool.and_eq_true] at hm
    obtain ⟨hm, hco⟩ := hm
    split at h
    case h_2 => cases h
    rename_i lks hlks
    cases h
    obtain ⟨hH, hG, hF, hV⟩ := hP
    have hG1 : sx_env Sg E ρ := hG.1
    have hG2 : sx_cs C ρ := hG.2.1
    obtain ⟨vals, v1, v2⟩ := sx_vals hG1 hG2 hF.2.2.1 q.2.1 hm
    have hGl : sx_G FT D RT Sg H ρ ((E, C, N, U), (FA.1.filter (fun x => !(sx_dr q.2.2.2.1 x.1 x.2.1) && Nat.blt x.2.1 1048576), FA.2.1.filter (fun x => !(sx_drA q.2.2.2.1 x.1)), FA.2.2)) :=
      ⟨hG.1, hG.2.1, hG.2.2.1, hG.2.2.2.1, fun x hx => hG.2.2.2.2.1 x (List.mem_filter.mp hx).1, fun x hx => hG.2.2.2.2.2.1 x (List.mem_filter.mp hx).1, hG.2.2.2.2.2.2⟩
    have hLk : ∀ x ∈ L.filter (fun x => !(q.2.1.any (fun y => y.1 == x.1))), ∃ v, sx_av ρ x.2 v := fun x hx => by
      obtain ⟨v, w1, -⟩ := hF.2.2.1 x (List.mem_filter.mp hx).1
      exact ⟨v, w1⟩
    generalize ha : ((q.1, q.2.1, q.2.2.1, ((E, C, N, U), (FA.1.filter (fun x => !(sx_dr q.2.2.2.1 x.1 x.2.1) && Nat.blt x.2.1 1048576), FA.2.1.filter (fun x => !(sx_drA q.2.2.2.1 x.1)), FA.2.2)), L.filter (fun x => !(q.2.1.any (fun y => y.1 == x.1))), S, nc, ns, lks, q.2.2.2.2.2.2) : sx_Al) = a at hB
    have a1 : a.1 = q.1 := by rw [← ha]
    have a2 : a.2.1 = q.2.1 := by rw [← ha]
    have a3 : a.2.2.2.1 = ((E, C, N, U), (FA.1.filter (fun x => !(sx_dr q.2.2.2.1 x.1 x.2.1) && Nat.blt x.2.1 1048576), FA.2.1.filter (fun x => !(sx_drA q.2.2.2.1 x.1)), FA.2.2)) := by rw [← ha]
    have a4 : a.2.2.2.2.1 = L.filter (fun x => !(q.2.1.any (fun y => y.1 == x.1))) := by rw [← ha]
    have a5 : a.2.2.2.2.2.1 = S := by rw [← ha]
    have a7 : a.2.2.2.2.2.2.2.2.1 = lks := by rw [← ha]
    have a8 : a.2.2.2.2.2.2.2.2.2 = q.2.2.2.2.2.2 := by rw [← ha]
    have hlk := sx_mkL_ok hF.2.2.1 hG.2.2.2.2.1 v1 v2 q.2.2.2.2.2.1 lks hlks
    have a6 : (sx_head a).2.2.1 = nc ∧ (sx_head a).2.2.2 = ns := by rw [← ha]; exact ⟨rfl, rfl⟩
    have main : ∀ (n : Nat) (Sg1 : Nat → Option Nat) (H1 : Heap) (ρ1 : List Value) (ls1 : Array Slot) (stk1 : List Value) (locs1 : List Loc), sx_le Sg Sg1 → ρ <+: ρ1 → sx_Pt FT D cl RT b0 nL s Sg1 H1 ρ1 (sx_head a).1 (sx_head a).2.1.1 (sx_head a).2.1.2 ls1 stk1 locs1 → sx_mu a ρ1 < n → W p l e R s m args below meth c H1 locs1 (sx_head a).2.2.1 (sx_head a).2.2.2 Q (F0 m a.1 ls1 stk1) := by
      intro n
      induction n with
      | zero => intro Sg1 H1 ρ1 ls1 stk1 locs1 _ _ _ hmu; omega
      | succ n ih =>
        intro Sg1 H1 ρ1 ls1 stk1 locs1 hle1 hpre1 hP1 hmu
        have hLOK : sx_LOK FT D cl RT b0 nL p l e R s m args below meth c Q Sg1 ρ1 a := by
          refine ⟨Sg, H, ρ, stk, hle1, hpre1, by rw [a3]; exact hGl, by rw [a4]; exact hLk, by rw [a5]; exact hF.2.2.2, by rw [a7]; exact fun y hy => (hlk y hy).imp (fun n hn => hn.1), fun k y hy => ?_, fun Sg2 H2 ρ2 ls2 stk2 locs2 hle2 hpre2 hP2 hmu2 => ih Sg2 H2 ρ2 ls2 stk2 locs2 hle2 hpre2 hP2 (by omega)⟩
          have hE1 : sx_env Sg1 (a.2.2.2.1.1.1 ++ a.2.1.map (fun q => q.2)) ρ1 := hP1.2.1.1
          have hty : (a.2.2.2.1.1.1 ++ a.2.1.map (fun q => q.2))[a.2.2.2.1.1.1.length + k]? = some y.2 := by
            rw [List.getElem?_append_right (by omega), Nat.add_sub_cancel_left, List.getElem?_map, hy]; rfl
          rw [a2] at hy
          obtain ⟨x, b, x1, x2, x3, -⟩ := v2 k y hy
          obtain ⟨z, z1, z2, z3⟩ := sx_env_iv hE1 hty (by omega)
          exact ⟨z, z1, z2, z3⟩
        have := hB Sg1 ρ1 (sx_le_trans hle hle1) (hpre.trans hpre1) hLOK Sg1 H1 ρ1 ls1 stk1 locs1 (fun _ _ h => h) (List.prefix_refl _) hP1
        rw [a1]
        exact this
    have hPt : sx_Pt FT D cl RT b0 nL s Sg H (ρ ++ vals) (sx_head a).1 (sx_head a).2.1.1 (sx_head a).2.1.2 ls stk locs := by
      refine sx_headP (L := L) (Sgl := Sg) (Hl := H) (ρl := ρ) (ρ := ρ) (stkl := stk) (fun _ _ h => h) (List.prefix_refl _) (by rw [a3]; exact hGl) (by rw [a4]; exact hLk) (by rw [a5]; exact hF.2.2.2) (by
        rw [a7, a3]
        intro y hy
        obtain ⟨z, hz, rfl⟩ := List.mem_map.mp hy
        obtain ⟨n, hn, h, x, b0', b1, b2, b3⟩ := hlk z hz
        exact sx_link b0' b1 b2 hn hG1.1 b3) hH ?_ ?_ hF.1 hF.2.1 hF.2.2.1 ?_ (by rw [a5]; exact hF.2.2.2) hV hG1 hG2 (by rw [a8]; exact hco) (by rw [a3]; exact hG.2.2.2.2.2.2) (by rw [a2]; exact v1) ?_
      · rw [a3]; exact fun x hx => hGl.2.2.2.2.1 x hx
      · rw [a3]; exact fun x hx => hGl.2.2.2.2.2.1 x hx
      · rw [a4]; exact fun x hx => (List.mem_filter.mp hx).1
      · rw [a2]
        intro k y hy
        obtain ⟨x, b, x1, x2, x3, x4, -⟩ := v2 k y hy
        exact ⟨x, x1, x2, x4⟩
    have := main (sx_mu a (ρ ++ vals) + 1) Sg H (ρ ++ vals) ls stk locs (fun _ _ h => h) (List.prefix_append _ _) hPt (Nat.lt_succ_self _)
    rw [a6.1, a6.2, a1] at this
    exact this
  · cases h
end SX15
