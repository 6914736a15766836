/-! pm and contracts: a walk gives a contract; a contract serves in a walk -/
def pm_T (RT : Nat → Option sx_Rg) (Sg : Nat → Option Nat) (μ : pm_Mem) : Prop := ∀ (q r : Nat) (g : sx_Rg) (k : Nat) (t : sx_Ty), Sg q = some r → RT r = some g → k < sx_wd g → sx_ft g k = some t → t.1 ≤ 1 → t.2.1 ≤ μ r (k : Int) ∧ μ r (k : Int) ≤ t.2.2
def pm_num (v : Value) : Int := match v with
  | .int x => x.toInt
  | .long x => x.toInt
  | _ => 0
theorem pm_num_ok {Sg : Nat → Option Nat} {v : Value} {t : sx_Ty} (h : sx_ok Sg v t) (ht : t.1 ≤ 1) : pm_v Sg (t.1, pm_num v) v ∧ t.2.1 ≤ pm_num v ∧ pm_num v ≤ t.2.2 := by
  rcases h with ⟨h1, x, rfl, h2, h3⟩ | ⟨h1, x, rfl, h2, h3⟩ | ⟨h1, -⟩ | ⟨h1, -⟩
  · exact ⟨Or.inl ⟨h1, x, rfl, rfl⟩, h2, h3⟩
  · exact ⟨Or.inr (Or.inl ⟨h1, x, rfl, rfl⟩), h2, h3⟩
  · omega
  · omega
section PMT
variable {D : va_G} {cl : List vw_C} {RT : Nat → Option sx_Rg} {Wm : Nat} {b0 : sx_B} {Sg : Nat → Option Nat} {s : State} {H : Heap}
theorem pm_down (hH : sx_H D cl (sx_fz Wm RT) b0 Sg s H) : ∃ μ, sx_H D cl (pm_w (sx_fz Wm RT)) b0 Sg s H ∧ pm_M D RT Sg μ H ∧ pm_T RT Sg μ := by
  have hex : ∀ r : Nat, ∃ a : Nat, ∀ q, Sg q = some r → q = a := fun r => by
    by_cases h : ∃ q, Sg q = some r
    · obtain ⟨q, hq⟩ := h
      exact ⟨q, fun q' hq' => sx_uniq hH hq hq'⟩
    · exact ⟨0, fun q hq => absurd ⟨q, hq⟩ h⟩
  obtain ⟨ad, had⟩ := Classical.axiomOfChoice hex
  let μ : pm_Mem := fun r i => match H[ad r]?, RT r with
    | some ce, some g => match ce.slots[sx_sl D g i.toNat]? with
      | some v => pm_num v
      | none => 0
    | _, _ => 0
  have key : ∀ (q r : Nat) (g : sx_Rg) (cell : Cell) (k : Nat) (t : sx_Ty), Sg q = some r → RT r = some g → H[q]? = some cell → k < sx_wd g → sx_ft g k = some t → t.1 ≤ 1 → ∃ v, cell.slots[sx_sl D g k]? = some v ∧ pm_v Sg (t.1, μ r (k : Int)) v ∧ t.2.1 ≤ μ r (k : Int) ∧ μ r (k : Int) ≤ t.2.2 := by
    intro q r g cell k t h1 h2 h3 h4 h5 h6
    obtain ⟨g', k1, ⟨cell', k2, k3, k4⟩, -⟩ := hH q r h1
    obtain ⟨g0, m1, rfl⟩ := sx_fz_ok k1
    rw [h2] at m1; cases m1
    rw [h3] at k2; cases k2
    obtain ⟨v, t', e1, e2, e3⟩ := k4 k (by rw [sx_fz1_wd]; exact h4)
    rw [sx_fz1_ft, h5] at e2; cases e2
    rw [sx_fz1_sl] at e1
    have hμ : μ r (k : Int) = pm_num v := by
      have := had r q h1
      subst this
      show (match H[ad r]?, RT r with
        | some ce, some g => match ce.slots[sx_sl D g ((k : Int)).toNat]? with
          | some v => pm_num v
          | none => 0
        | _, _ => 0) = pm_num v
      rw [h3, h2]
      show (match cell.slots[sx_sl D g ((k : Int)).toNat]? with
          | some v => pm_num v
          | none => 0) = pm_num v
      rw [Int.toNat_natCast, e1]
    obtain ⟨n1, n2, n3⟩ := pm_num_ok e3 h6
    exact ⟨v, e1, by rw [hμ]; exact n1, by rw [hμ]; exact n2, by rw [hμ]; exact n3⟩
  refine ⟨μ, fun a r ha => ?_, fun q r g cell k t h1 h2 h3 h4 h5 h6 => ?_, fun q r g k t h1 h2 h4 h5 h6 => ?_⟩
  · obtain ⟨g, h1, ⟨cell, h2, h3, h4⟩, h5⟩ := hH a r ha
    refine ⟨pm_wg g, pm_w_some h1, ⟨cell, h2, (pm_wg_kind g cell).mpr h3, fun k hk => ?_⟩, h5⟩
    rw [pm_wg_wd] at hk
    obtain ⟨v, t, e1, e2, e3⟩ := h4 k hk
    exact ⟨v, pm_wt t, e1, by rw [pm_wg_ft, e2]; rfl, pm_wt_ok e3⟩
  · obtain ⟨v, v1, v2, -, -⟩ := key q r g cell k t h1 h2 h3 h4 h5 h6
    exact ⟨v, v1, v2⟩
  · obtain ⟨g', k1, ⟨cell, k2, -, -⟩, -⟩ := hH q r h1
    obtain ⟨v, v1, v2, v3, v4⟩ := key q r g cell k t h1 h2 k2 h4 h5 h6
    exact ⟨v3, v4⟩
/-- typed again -/
theorem pm_narrow {V : Nat} {b1 : sx_B} {U : State} {μ : pm_Mem} (hH : sx_H D cl (pm_w (sx_fz Wm RT)) b0 Sg s H) (hM : pm_M D RT Sg μ H) (hT : pm_T RT Sg μ) (hal : s.vm.Alike U.vm) (hb : ∀ a r g, Sg a = some r → sx_fz V RT r = some g → sx_mut g = true → b1.1 a) : sx_H D cl (sx_fz V RT) b1 Sg U H := by
  intro a r ha
  obtain ⟨g', k1, ⟨cell, k2, k3, k4⟩, k5, k6⟩ := hH a r ha
  obtain ⟨g1, m1, rfl⟩ := pm_w_ok k1
  obtain ⟨g, m2, rfl⟩ := sx_fz_ok m1
  refine ⟨sx_fz1 V r g, sx_fz_some m2, ⟨cell, k2, ?_, fun k hk => ?_⟩, fun hm => hb a r _ ha (sx_fz_some m2) hm, k6⟩
  · exact sx_kind_moved hal ((sx_fz1_kind V r g cell).mpr ((sx_fz1_kind Wm r g cell).mp ((pm_wg_kind _ cell).mp k3)))
  · rw [sx_fz1_wd] at hk
    obtain ⟨v, t, e1, e2, e3⟩ := k4 k (by rw [pm_wg_wd, sx_fz1_wd]; exact hk)
    rw [pm_wg_ft, sx_fz1_ft] at e2
    rw [pm_wg_sl, sx_fz1_sl] at e1
    cases hf : sx_ft g k with
    | none => rw [hf] at e2; cases e2
    | some t0 =>
      rw [hf] at e2
      cases e2
      refine ⟨v, t0, by rw [sx_fz1_sl]; exact e1, by rw [sx_fz1_ft]; exact hf, ?_⟩
      by_cases h0 : t0.1 ≤ 1
      · obtain ⟨w, w1, w2⟩ := hM a r g cell k t0 ha m2 k2 hk hf h0
        rw [e1] at w1
        cases w1
        obtain ⟨t1, t2⟩ := hT a r g k t0 ha m2 hk hf h0
        exact pm_v_ok w2 h0 t1 t2
      · have : pm_wt t0 = t0 := by unfold pm_wt; rw [if_neg (by omega), if_neg (by omega)]
        rw [this] at e3
        exact e3
theorem pm_widen {V : Nat} {b1 : sx_B} {U : State} (hH : sx_H D cl (sx_fz V RT) b1 Sg U H) (hal : U.vm.Alike s.vm) (hb : ∀ a r g, Sg a = some r → sx_fz Wm RT r = some g → sx_mut g = true → b0.1 a) : sx_H D cl (pm_w (sx_fz Wm RT)) b0 Sg s H := by
  intro a r ha
  obtain ⟨g1, h1, ⟨cell, h2, h3, h4⟩, h5, h6⟩ := hH a r ha
  obtain ⟨g, m2, rfl⟩ := sx_fz_ok h1
  refine ⟨pm_wg (sx_fz1 Wm r g), pm_w_some (sx_fz_some m2), ⟨cell, h2, (pm_wg_kind _ cell).mpr ((sx_fz1_kind Wm r g cell).mpr ((sx_fz1_kind V r g cell).mp (sx_kind_moved hal h3))), fun k hk => ?_⟩, fun hm => hb a r _ ha (sx_fz_some m2) hm, h6⟩
  rw [pm_wg_wd, sx_fz1_wd] at hk
  obtain ⟨v, t, e1, e2, e3⟩ := h4 k (by rw [sx_fz1_wd]; exact hk)
  rw [sx_fz1_ft] at e2
  rw [sx_fz1_sl] at e1
  exact ⟨v, pm_wt t, by rw [pm_wg_sl, sx_fz1_sl]; exact e1, by rw [pm_wg_ft, sx_fz1_ft, e2]; rfl, pm_wt_ok e3⟩
end PMT
/-- what holds of the guarded regions -/
def pm_Mg (D : va_G) (RT : Nat → Option sx_Rg) (Sg : Nat → Option Nat) (Gm : Nat) (μ : pm_Mem) (H : Heap) : Prop := ∀ (q r : Nat) (g : sx_Rg) (cell : Cell) (k : Nat) (t : sx_Ty), Sg q = some r → sx_bit Gm r = true → RT r = some g → H[q]? = some cell → k < sx_wd g → sx_ft g k = some t → t.1 ≤ 1 → ∃ v, cell.slots[sx_sl D g k]? = some v ∧ pm_v Sg (t.1, μ r (k : Int)) v
def pm_J (D : va_G) (RT : Nat → Option sx_Rg) (SgW : Nat → Option Nat) (Gm : Nat) (Jm : pm_Mem → Prop) : (Nat → Option Nat) → Heap → Prop := fun Sg H => sx_le SgW Sg ∧ (∀ q r, SgW q = some r → q < H.size) ∧ ∀ μ, pm_Mg D RT SgW Gm μ H → Jm μ
/-- it speaks of the guarded regions alone -/
def pm_loc8 (RT : Nat → Option sx_Rg) (Gm : Nat) (Jm : pm_Mem → Prop) : Prop := ∀ μ μ' : pm_Mem, (∀ (r : Nat) (g : sx_Rg) (k : Nat) (t : sx_Ty), sx_bit Gm r = true → RT r = some g → k < sx_wd g → sx_ft g k = some t → t.1 ≤ 1 → μ r (k : Int) = μ' r (k : Int)) → Jm μ → Jm μ'
theorem pm_v_num {Sg : Nat → Option Nat} {t : Nat} {x y : Int} {v : Value} (ht : t ≤ 1) (h1 : pm_v Sg (t, x) v) (h2 : pm_v Sg (t, y) v) : x = y := by
  rcases h1 with ⟨k1, a, rfl, k2⟩ | ⟨k1, a, rfl, k2⟩ | ⟨k1, -⟩ | ⟨k1, -⟩ | ⟨k1, -⟩
  · rcases h2 with ⟨-, b, hb, k3⟩ | ⟨-, b, hb, k3⟩ | ⟨-, b, hb, -⟩ | ⟨-, hb⟩ | ⟨-, hb⟩ <;> cases hb
    exact k2.symm.trans k3
  · rcases h2 with ⟨-, b, hb, k3⟩ | ⟨-, b, hb, k3⟩ | ⟨-, b, hb, -⟩ | ⟨-, hb⟩ | ⟨-, hb⟩ <;> cases hb
    exact k2.symm.trans k3
  · have k1 : t = 2 := k1
    omega
  · have k1 : t = 3 := k1
    omega
  · have k1 : t = 4 := k1
    omega
theorem pm_J_mk {D : va_G} {cl : List vw_C} {RT RTx : Nat → Option sx_Rg} {b0 : sx_B} {Sg : Nat → Option Nat} {s : State} {H : Heap} {Gm nR : Nat} {Jm : pm_Mem → Prop} {μ : pm_Mem} (hw : ∀ r, r < nR → ∃ a, Sg a = some r) (hG : ∀ r, sx_bit Gm r = true → r < nR) (hl : pm_loc8 RT Gm Jm) (hH : sx_H D cl RTx b0 Sg s H) (hM : pm_M D RT Sg μ H) (hJ : Jm μ) : pm_J D RT Sg Gm Jm Sg H := by
  refine ⟨fun _ _ h => h, fun q r hq => sx_H_lt hH hq, fun μ' hM' => hl μ μ' (fun r g k t hr hg hk ht h1 => ?_) hJ⟩
  obtain ⟨a, ha⟩ := hw r (hG r hr)
  obtain ⟨cell, hc⟩ : ∃ cell : Cell, H[a]? = some cell := ⟨H[a]'(sx_H_lt hH ha), Array.getElem?_eq_getElem _⟩
  obtain ⟨v, v1, v2⟩ := hM a r g cell k t ha hg hc hk ht h1
  obtain ⟨w, w1, w2⟩ := hM' a r g cell k t ha hr hg hc hk ht h1
  rw [v1] at w1
  cases w1
  exact pm_v_num h1 v2 w2
theorem pm_J_get {D : va_G} {RT : Nat → Option sx_Rg} {Sg : Nat → Option Nat} {H : Heap} {Gm : Nat} {Jm : pm_Mem → Prop} {μ : pm_Mem} (h : pm_J D RT Sg Gm Jm Sg H) (hM : pm_M D RT Sg μ H) : Jm μ := h.2.2 μ (fun q r g cell k t h1 _ h2 h3 h4 h5 h6 => hM q r g cell k t h1 h2 h3 h4 h5 h6)
/-- guarded regions may not be written -/
def pm_gd (RT : Nat → Option sx_Rg) (Gm : Nat) : Prop := ∀ r g, sx_bit Gm r = true → RT r = some g → g.1 ≤ 2
theorem pm_land0 {W G r : Nat} (h : Nat.land W G = 0) (hr : sx_bit G r = true) : sx_bit W r = false := by
  rw [sx_bit_eq] at hr ⊢
  have h1 : (W &&& G).testBit r = false := by
    have h0 : W &&& G = 0 := h
    rw [h0]; simp
  rw [Nat.testBit_and, hr, Bool.and_true] at h1
  exact h1
theorem pm_jkp {D : va_G} {RT : Nat → Option sx_Rg} {Sg : Nat → Option Nat} {W Gm : Nat} {Jm : pm_Mem → Prop} (h0 : Nat.land W Gm = 0) (hgd : pm_gd RT Gm) : sx_jkp (sx_fz W RT) (pm_J D RT Sg Gm Jm) Sg := by
  intro Sg1 hle1
  refine ⟨fun a r g H H' ha hg hmut hsz heq hJ => ⟨hJ.1, fun q r' hq => by rw [hsz]; exact hJ.2.1 q r' hq, fun μ hM => hJ.2.2 μ (fun q r' g' cell k t b1 b2 b3 b4 b5 b6 b7 => ?_)⟩, fun Sg2 H H' hle2 hsz heq hJ => ⟨fun a r ha => hle2 a r (hJ.1 a r ha), fun q r' hq => Nat.lt_of_lt_of_le (hJ.2.1 q r' hq) hsz, fun μ hM => hJ.2.2 μ (fun q r' g' cell k t b1 b2 b3 b4 b5 b6 b7 => hM q r' g' cell k t b1 b2 b3 (by rw [heq q (hJ.2.1 q r' b1)]; exact b4) b5 b6 b7)⟩⟩
  have hne : q ≠ a := fun he => by
    subst he
    have hr := hle1 q r' b1
    rw [ha] at hr
    cases hr
    obtain ⟨g0, m1, rfl⟩ := sx_fz_ok hg
    rw [b3] at m1
    cases m1
    have hb := pm_land0 h0 b2
    have hg2 := hgd r g' b2 b3
    unfold sx_fz1 at hmut
    rw [if_neg (by rw [hb, Bool.or_false]; exact fun h => by have := Nat.le_of_ble_eq_true h; omega)] at hmut
    unfold sx_mut at hmut
    simp only [Bool.or_eq_true, beq_iff_eq] at hmut
    rcases hmut with h | h
    · have h : g'.1 = 3 := h
      omega
    · have h : (1 : Nat) = 0 := h
      omega
  exact hM q r' g' cell k t b1 b2 b3 (by rw [heq q hne]; exact b4) b5 b6 b7
/-- arguments of their types -/
def pm_as : List pm_V → List sx_Ty → Prop
  | [], [] => True
  | a :: as, t :: ts => a.1 = t.1 ∧ (t.1 = 0 → t.2.1 ≤ a.2 ∧ a.2 ≤ t.2.2) ∧ (t.1 = 2 → a.2 = t.2.1) ∧ pm_as as ts
  | _, _ => False
def pm_res (res : Option sx_Ty) (st : List pm_V) : Prop := match res with
  | none => st = []
  | some t => ∃ x, st = [(0, x)] ∧ t.2.1 ≤ x ∧ x ≤ t.2.2
theorem pm_as_of {Sg : Nat → Option Nat} : ∀ {ts : List sx_Ty} {vs : List Value}, sx_cvs Sg vs ts → (∀ t ∈ ts, t.1 = 0 ∨ t.1 = 2) → ∃ as, pm_S Sg as vs ∧ pm_as as ts ∧ pm_one as = true
  | [], [], _, _ => ⟨[], trivial, trivial, rfl⟩
  | t :: ts, v :: vs, h, ht => by
    obtain ⟨as, a1, a2, a3⟩ := pm_as_of h.2 (fun u hu => ht u (List.mem_cons_of_mem _ hu))
    rcases ht t List.mem_cons_self with h0 | h2
    · obtain ⟨n1, n2, n3⟩ := pm_num_ok h.1 (by omega)
      refine ⟨(0, pm_num v) :: as, ⟨by rw [← h0]; exact n1, a1⟩, ⟨h0.symm, fun _ => ⟨n2, n3⟩, fun h => absurd h (by omega), a2⟩, ?_⟩
      unfold pm_one at a3 ⊢
      rw [List.all_cons, a3]
      rfl
    · rcases h.1 with ⟨k1, -⟩ | ⟨k1, -⟩ | ⟨-, a, rfl, k2⟩ | ⟨k1, -⟩
      · omega
      · omega
      · refine ⟨(2, t.2.1) :: as, ⟨Or.inr (Or.inr (Or.inl ⟨rfl, a, rfl, k2⟩)), a1⟩, ⟨h2.symm, fun h => absurd h (by omega), fun _ => rfl, a2⟩, ?_⟩
        unfold pm_one at a3 ⊢
        rw [List.all_cons, a3]
        rfl
      · omega
  | [], _ :: _, h, _ => h.elim
  | _ :: _, [], h, _ => h.elim
theorem pm_cvs_of {Sg : Nat → Option Nat} : ∀ {ts : List sx_Ty} {as : List pm_V} {vs : List Value}, pm_S Sg as vs → pm_as as ts → (∀ t ∈ ts, t.1 = 0 ∨ t.1 = 2) → sx_cvs Sg vs ts
  | [], [], [], _, _, _ => trivial
  | t :: ts, a :: as, v :: vs, h, ha, ht => by
    refine ⟨?_, pm_cvs_of h.2 ha.2.2.2 (fun u hu => ht u (List.mem_cons_of_mem _ hu))⟩
    rcases ht t List.mem_cons_self with h0 | h2
    · obtain ⟨y, rfl, hy⟩ := pm_v_int h.1 (by rw [ha.1]; exact h0)
      have := ha.2.1 h0
      exact Or.inl ⟨h0, y, rfl, by omega, by omega⟩
    · obtain ⟨q, rfl, hq⟩ := pm_v_ref h.1 (by rw [ha.1]; exact h2)
      exact Or.inr (Or.inr (Or.inl ⟨h2, q, rfl, by rw [← ha.2.2.1 h2]; exact hq⟩))
  | _ :: _, _ :: _, [], h, _, _ => h.elim
  | [], [], _ :: _, h, _, _ => h.elim
  | [], _ :: _, _, _, ha, _ => ha.elim
  | _ :: _, [], _, _, ha, _ => ha.elim
section PMK
variable {D : va_G} {cl : List vw_C} {RT : Nat → Option sx_Rg} {AO : sx_Ao} {TB : List Cond} {CJ : List (List Nat)} {MT : List (List sx_Me)} {CDs : List sx_Da} {l : Launch} {Sg : Nat → Option Nat} {M : sx_Me} {B0 : Nat → Prop} {d : sx_Da} {nR Gm : Nat} {Jm : pm_Mem → Prop}
/-- a walk gives a contract -/
theorem pm_ct {ct : sx_Ct} (hK : pm_K cl RT CJ AO TB MT CDs) (hM : sx_at2 MT ct.1 = some M) (hc : M.2.2.1.2.2.1 = 0 ∧ M.2.2.1.2.2.2.1 = 0) (hw : sx_Wd nR RT B0 Sg) (hG : ∀ r, sx_bit Gm r = true → r < nR) (hl : pm_loc8 RT Gm Jm) (ht : ct.2.1.all (fun t => Nat.beq t.1 0 || Nat.beq t.1 2) = true) (hr : ∀ t, ct.2.2.1 = some t → t.1 = 0)
    (h : ∀ (as : List pm_V) (μ : pm_Mem), pm_as as ct.2.1 → pm_T RT Sg μ → Jm μ → pm_C D cl RT ct.2.2.2.2.2 AO TB (sx_bW RT ct.2.2.2.2.2 B0 Sg, pm_J D RT Sg Gm Jm) l Sg M (ct.2.2.2.1, ct.2.2.2.2.1, 0, 0) as μ (fun st' μ' => pm_res ct.2.2.1 st' ∧ pm_T RT Sg μ' ∧ Jm μ')) : sx_CTok D cl RT AO TB B0 (pm_J D RT Sg Gm Jm) l MT Sg ct := by
  intro H vs M' hM' hvs hJ p e R s m args below meth c Q ls hF hh hH hlv K
  rw [hM] at hM'
  cases hM'
  rw [hc.1, hc.2] at hF
  have ht' : ∀ t ∈ ct.2.1, t.1 = 0 ∨ t.1 = 2 := fun t hm => by
    rcases Bool.or_eq_true_iff.mp (List.all_eq_true.mp ht t hm) with h | h
    · exact Or.inl (Nat.eq_of_beq_eq_true h)
    · exact Or.inr (Nat.eq_of_beq_eq_true h)
  obtain ⟨as, a1, a2, a3⟩ := pm_as_of hvs ht'
  obtain ⟨μ, m1, m2, m3⟩ := pm_down hH
  refine h as μ a2 m3 (pm_J_get hJ m2) p e R s m args below meth c Q H [] ls [] hF ⟨m1, m2, by rw [hh]; exact va_S.rf, pm_entL a1 a3 hlv, trivial⟩ (fun pc' lv' st' μ' H' locs' ls' stk' hX hP' => ?_)
  obtain ⟨⟨i, i1, i2⟩, hres, hT', hJ'⟩ := hX
  obtain ⟨vo, rfl, hrv⟩ := pm_rv_ok i2 hP'.2.2.2.2
  refine K vo H' locs' i pc' ls' (pm_narrow hP'.1 hP'.2.1 hT' (Vm.Alike.refl s.vm) (fun a r g ha hg hmut => ?_)) hP'.2.2.1 ⟨?_, pm_J_mk hw.2.1 hG hl hP'.1 hP'.2.1 hJ'⟩ hrv (pv_row (hK.1.2.2.2.2.2.2.1 M (sx_at2_mem hM)).1 i1)
  · obtain ⟨g', k1, -, k5, -⟩ := hH a r ha
    rw [hg] at k1
    cases k1
    exact k5 hmut
  · unfold sx_cres
    unfold pm_res at hres
    cases hrr : ct.2.2.1 with
    | none =>
      rw [hrr] at hres
      have hres : st' = [] := hres
      subst hres
      have := pm_S_nil hP'.2.2.2.2
      cases vo with
      | none => rfl
      | some v => simp at this
    | some t =>
      rw [hrr] at hres
      obtain ⟨x, rfl, x1, x2⟩ := hres
      obtain ⟨v, t1, e1, k1, k2⟩ := pm_S_cons hP'.2.2.2.2
      obtain rfl := pm_S_nil k2
      cases vo with
      | none => simp at e1
      | some w =>
        simp at e1
        subst e1
        obtain ⟨y, rfl, hy⟩ := pm_v_int k1 rfl
        have hy : y.toInt = x := hy
        exact ⟨_, rfl, Or.inl ⟨hr t hrr, y, rfl, by omega, by omega⟩⟩
/-- a contract serves in a walk -/
theorem pm_ccall {Wm : Nat} {J : (Nat → Option Nat) → Heap → Prop} {bud : sx_Bu} {X : Nat → List pm_V → List pm_V → pm_Mem → Prop} {pc : Nat} {lv : List pm_V} {μ : pm_Mem} {ct : sx_Ct} (hK : pm_K cl RT CJ AO TB MT CDs) (hm : pm_m MT CDs M d) (hct : sx_CTok D cl RT AO TB B0 (pm_J D RT Sg Gm Jm) l MT Sg ct) (hw : sx_Wd nR RT B0 Sg) (hG : ∀ r, sx_bit Gm r = true → r < nR) (hl : pm_loc8 RT Gm Jm) (q : sx_Ml) (M' : sx_Me) (as rest : List pm_V) (hq : sx_fnd (fun x => Nat.beq x.1 q.1) d.2.2.1 = some q) (hrow : sx_row M.2.1 pc = some (pc, sx_inv q.2.1 q.1, 3)) (hM' : sx_at2 MT q.2.2.1 = some M') (hq1 : q.2.2.1 = ct.1) (hc : pm_cok RT q M' as rest = true) (hb : ct.2.2.2.1 + 1 ≤ bud.1 ∧ 19 + M'.1.2.2.1 + ct.2.2.2.2.1 ≤ bud.2.1) (hs : sx_subm ct.2.2.2.2.2 Wm = true)
    (ht : ct.2.1.all (fun t => Nat.beq t.1 0 || Nat.beq t.1 2) = true) (hr : ∀ t, ct.2.2.1 = some t → t.1 = 0) (ha : pm_as as ct.2.1) (hT : pm_T RT Sg μ) (hJm : Jm μ)
    (k : ∀ st' μ', pm_res ct.2.2.1 st' → pm_T RT Sg μ' → Jm μ' → (∀ (r : Nat) (g : sx_Rg) (k : Nat) (t : sx_Ty), sx_bit ct.2.2.2.2.2 r = false → r < nR → RT r = some g → g.1 ≤ 2 → k < sx_wd g → sx_ft g k = some t → t.1 ≤ 1 → μ' r (k : Int) = μ r (k : Int)) → pm_W D cl RT Wm AO TB (sx_bW RT Wm B0 Sg, J) l Sg M bud X (pc + 3) lv (st' ++ rest) μ') : pm_W D cl RT Wm AO TB (sx_bW RT Wm B0 Sg, J) l Sg M bud X pc lv (as.reverse ++ rest) μ := by
  intro p e R s m args below meth c Q H locs ls stk hF hP K
  obtain ⟨hH, hMm, hV, hL, hS⟩ := hP
  obtain ⟨t1, t2, rfl, g1, g2⟩ := pm_S_split hS
  generalize hvs : t1.reverse = vs
  have ht1 : t1 = vs.reverse := by rw [← hvs, List.reverse_reverse]
  subst ht1
  have gv : pm_S Sg as vs := by
    have := pm_S_rev g1
    rwa [List.reverse_reverse, List.reverse_reverse] at this
  unfold pm_cok at hc
  simp only [sx_ab_eq, Bool.and_eq_true] at hc
  obtain ⟨c1, c2, c3, c4, c5, c6, c7⟩ := hc
  have c1 := Nat.eq_of_beq_eq_true c1
  have c3 := Nat.le_of_ble_eq_true c3
  have c4 := Nat.le_of_ble_eq_true c4
  have c5 := Nat.eq_of_beq_eq_true c5
  have c6 := Nat.eq_of_beq_eq_true c6
  have hM'm := sx_at2_mem hM'
  have ht' : ∀ t ∈ ct.2.1, t.1 = 0 ∨ t.1 = 2 := fun t hm => by
    rcases Bool.or_eq_true_iff.mp (List.all_eq_true.mp ht t hm) with h | h
    · exact Or.inl (Nat.eq_of_beq_eq_true h)
    · exact Or.inr (Nat.eq_of_beq_eq_true h)
  obtain ⟨hg, hcl, hRT, hCJ, hai, hal, hMT, hDA⟩ := hK.1
  have hdn := (hMT M hm.1).2.2.2.1 d hm.2
  obtain ⟨-, hml, -, -⟩ := hDA d (List.mem_of_getElem? hm.2) args s hF.1.2.2.2.2 hF.2.1.2.1
  obtain ⟨hmlk, mo3⟩ := hml q (sx_fnd_mem hq) M' hM'
  rw [hdn] at hmlk
  obtain ⟨hrv, hne2⟩ := pm_rcv_ok (q := q) hK hM'm hF.2.1 hH c7 gv
  have hbb : ∀ (V : Nat) a r g, Sg a = some r → sx_fz V RT r = some g → sx_mut g = true → (sx_bW RT V B0 Sg) a := fun V a r g ha hg hmut => by
    obtain ⟨g0, m1, rfl⟩ := sx_fz_ok hg
    refine ⟨hw.2.2 a r g0 ha m1 (sx_fz1_mut0 hmut), fun r' g' hr' hg' => ?_⟩
    rw [ha] at hr'
    cases hr'
    rw [sx_fz_some m1] at hg'
    cases hg'
    exact hmut
  have hCG := hct H vs M' (by rw [← hq1]; exact hM') (pm_cvs_of gv ha ht') (pm_J_mk hw.2.1 hG hl hH hMm hJm)
  have hself : ∀ V, sx_subm V V = true := fun V => by unfold sx_subm; rw [show Nat.land V V = V from Nat.and_self _]; exact Nat.beq_refl _
  have hHn : sx_H D cl (sx_fz Wm RT) (sx_bW RT Wm B0 Sg, J) Sg s H := pm_narrow hH hMm hT (Vm.Alike.refl s.vm) (hbb _)
  refine pv_call3 (RT := sx_fz Wm RT) (bc0 := (sx_bW RT ct.2.2.2.2.2 B0 Sg, pm_J D RT Sg Gm Jm)) (RTc := sx_fz ct.2.2.2.2.2 RT) (bc := (ct.2.2.2.1, ct.2.2.2.2.1, M'.2.2.1.2.2.1, M'.2.2.1.2.2.2.1)) hg (hMT M' hM'm) mo3 hF hmlk (pm_row hK hm hrow) (by rw [pm_S_len gv]; exact c1) (by rw [pm_sl gv c2]; exact c3) (by rw [pm_cs_ok g2]; exact c4) hb.1 hb.2 rfl rfl (fun h => absurd h hne2) (by rw [c5]; exact Nat.zero_le _) (by rw [c6]; exact Nat.zero_le _) hrv
    (fun a ha => sx_bW_sub hs ha) (fun a ha => ⟨(hF.2.2.1 a (Nat.le_trans hV.1 ha)).1, fun r g hr _ => absurd (sx_H_lt hH hr) (by omega)⟩) (fun U hU => sx_H_conv hw.2.2 (hself _) (Vm.Alike.refl U.vm) hU) (fun U U2 H2 _ h2 => sx_H_conv hw.2.2 (hself _) (Vm.Alike.refl U2.vm) h2) hHn hV hL.1 hCG (fun vo H2 locs2 hH2 hV2 hfr hres => ?_)
  obtain ⟨hcr, hJ2⟩ := hres
  rw [c5, c6]
  obtain ⟨μ0, n1, n2, n3⟩ := pm_down hH2
  have hfix : ∀ (r : Nat) (g : sx_Rg) (k : Nat) (t : sx_Ty), sx_bit ct.2.2.2.2.2 r = false → r < nR → RT r = some g → g.1 ≤ 2 → k < sx_wd g → sx_ft g k = some t → t.1 ≤ 1 → μ0 r (k : Int) = μ r (k : Int) := fun r g k t hb0 hrn hrg hg2 hk hft ht1 => by
    obtain ⟨a, har⟩ := hw.2.1 r hrn
    have hlt := sx_H_lt hHn har
    obtain ⟨cell, hcell⟩ : ∃ cell : Cell, H[a]? = some cell := ⟨H[a]'hlt, Array.getElem?_eq_getElem _⟩
    have hnb : ¬ (sx_bW RT ct.2.2.2.2.2 B0 Sg) a := fun hbw => by
      have hmm := hbw.2 r _ har (sx_fz_some hrg)
      unfold sx_fz1 at hmm
      rw [if_neg (by rw [hb0, Bool.or_false]; exact fun h => by have := Nat.le_of_ble_eq_true h; omega)] at hmm
      unfold sx_mut at hmm
      simp only [Bool.or_eq_true, beq_iff_eq] at hmm
      rcases hmm with h | h
      · have h : g.1 = 3 := h
        omega
      · have h : (1 : Nat) = 0 := h
        omega
    have hcell2 : H2[a]? = some cell := by rw [hfr.2 a hlt hnb]; exact hcell
    obtain ⟨v, v1, v2⟩ := hMm a r g cell k t har hrg hcell hk hft ht1
    obtain ⟨w, w1, w2⟩ := n2 a r g cell k t har hrg hcell2 hk hft ht1
    rw [v1] at w1
    cases w1
    exact pm_v_num ht1 w2 v2
  obtain ⟨st', q1, q2⟩ : ∃ st', pm_res ct.2.2.1 st' ∧ pm_S Sg st' vo.toList := by
    unfold sx_cres at hcr
    unfold pm_res
    cases hrr : ct.2.2.1 with
    | none =>
      rw [hrr] at hcr
      have hcr : vo = none := hcr
      subst hcr
      exact ⟨[], rfl, trivial⟩
    | some t =>
      rw [hrr] at hcr
      obtain ⟨v, rfl, hv⟩ := hcr
      have h0 := hr t hrr
      rcases hv with ⟨-, y, rfl, y1, y2⟩ | ⟨k1, -⟩ | ⟨k1, -⟩ | ⟨k1, -⟩
      · exact ⟨[(0, y.toInt)], ⟨y.toInt, rfl, y1, y2⟩, ⟨Or.inl ⟨rfl, y, rfl, rfl⟩, trivial⟩⟩
      all_goals omega
  exact k st' μ0 q1 n3 (pm_J_get hJ2 n2) hfix p e R s m args below meth c Q H2 locs2 ls _ hF ⟨n1, n2, hV2, hL, pm_S_join q2 g2⟩ K
end PMK
