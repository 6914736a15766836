/-! the world at the loop's head, out of the executor's state -/
section WL2
variable {FT : Nat → List Int → Int} {D : va_G} {Sg : Nat → Option Nat} {s : State} {H : Heap} {ρ : List Value} {E : List sx_Ty} {C N : List sx_LF} {U : List (Nat × List sx_LF × Nat)} {F : List (Nat × Nat × sx_AV)} {A : List (Nat × sx_Ty × List Nat)} {n : Nat} {L : List (Nat × sx_AV)} {S : List sx_AV} {nc ns b t0 t1 t2 t3 t4 : Nat} {ls : Array Slot} {stk : List Value} {locs : List Loc}
abbrev zB1 (s : State) : sx_B := (fun q => s.heap.size ≤ q, fun _ _ => True)
theorem zworld (hP : sx_Pt FT D zCl (sxRT 6) (zB1 s) 4 s Sg H ρ ((E, C, N, U), (F, A, n)) L S ls stk locs) (hck : zrtck (((E, C, N, U), (F, A, n)), (L, S), nc, ns) = true) (hρ : ρ[0]? = some (.ref b))
    (hT0 : va_T .long t0 zTv4.length (fun j => .long (Int64.ofInt (zTv4.getD j 0))) (zB1 s).1 s s.heap) (hT1 : va_T .int t1 zTv0.length (fun j => .int (Int32.ofInt (zTv0.getD j 0))) (zB1 s).1 s s.heap) (hT2 : va_T .int t2 zTv1.length (fun j => .int (Int32.ofInt (zTv1.getD j 0))) (zB1 s).1 s s.heap) (hT3 : va_T .int t3 zTv2.length (fun j => .int (Int32.ofInt (zTv2.getD j 0))) (zB1 s).1 s s.heap) (hT4 : va_T .int t4 zTv3.length (fun j => .int (Int32.ofInt (zTv3.getD j 0))) (zB1 s).1 s s.heap) :
    ∃ (Sg2 : Nat → Option Nat) (ax am : Nat) (i : Int32), sx_Wd zNR zRT2 (zB1 s).1 Sg2 ∧ (Sg2 t0 = some 0 ∧ Sg2 t1 = some 246 ∧ Sg2 t2 = some 247 ∧ Sg2 t3 = some 248 ∧ Sg2 t4 = some 249) ∧ Sg2 ax = some 1 ∧ Sg2 am = some 205 ∧ i.toInt = 0 ∧ lv_has ls 4 (zlv b ax am i) ∧ stk = [] ∧ zLX D (zB1 s) (zB1 s).1 Sg2 s H locs ∧ nc ≤ 600000 ∧ ns ≤ 7302249 := by
  obtain ⟨hH, hG, hFr, hV⟩ := hP
  unfold zrtck at hck
  simp only [Bool.and_eq_true, decide_eq_true_eq] at hck
  obtain ⟨⟨⟨⟨⟨⟨⟨⟨⟨⟨c1, c2⟩, c3⟩, c4⟩, l0⟩, l1⟩, l2⟩, l3⟩, cR⟩, cA⟩, cF⟩ := hck
  have c2 := Nat.eq_of_beq_eq_true c2
  have c3 := Nat.le_of_ble_eq_true c3
  have hE : sx_env Sg E ρ := hG.1
  -- the static tables, in this heap
  have n01 : t1 ≠ t0 := zT_ne hT1 hT0 (by decide) (by decide) (by decide)
  have n02 : t2 ≠ t0 := zT_ne hT2 hT0 (by decide) (by decide) (by decide)
  have n03 : t3 ≠ t0 := zT_ne hT3 hT0 (by decide) (by decide) (by decide)
  have n04 : t4 ≠ t0 := zT_ne hT4 hT0 (by decide) (by decide) (by decide)
  have n12 : t2 ≠ t1 := zT_ne hT2 hT1 (by decide) (by decide) (by decide)
  have n13 : t3 ≠ t1 := zT_ne hT3 hT1 (by decide) (by decide) (by decide)
  have n14 : t4 ≠ t1 := zT_ne hT4 hT1 (by decide) (by decide) (by decide)
  have n23 : t3 ≠ t2 := zT_ne hT3 hT2 (by decide) (by decide) (by decide)
  have n24 : t4 ≠ t2 := zT_ne hT4 hT2 (by decide) (by decide) (by decide)
  have n34 : t4 ≠ t3 := zT_ne hT4 hT3 (by decide) (by decide) (by decide)
  have hlt : ∀ {ty : FieldType} {t k : Nat} {f : Nat → Value}, va_T ty t k f (zB1 s).1 s s.heap → ¬ s.heap.size ≤ t := fun h => by
    obtain ⟨cell, a1, -, -, -, -, -, a7⟩ := h
    exact a7
  have hV0 := hV.1.2.1
  have T0 := hT0.kept hV0
  have T1 := hT1.kept hV0
  have T2 := hT2.kept hV0
  have T3 := hT3.kept hV0
  have T4 := hT4.kept hV0
  -- regions
  have hR : ∀ r : Nat, 1 ≤ r → r ≤ 245 → ∃ g1 g2, E[r]? = some (2, (r : Int), (E[r]?.getD (0, 0, 0)).2.2) ∧ sxRT 6 r = some g1 ∧ zRT2 r = some g2 ∧ zreg E F A r g1 g2 = true := fun r h1 h2 => by
    have h := List.all_eq_true.mp cR (r - 1) (List.mem_range.mpr (by omega))
    rw [show r - 1 + 1 = r by omega] at h
    split at h
    · rename_i t g1 g2 ht hg1 hg2
      simp only [Bool.and_eq_true, decide_eq_true_eq] at h
      obtain ⟨⟨k1, k2⟩, k3⟩ := h
      refine ⟨g1, g2, ?_, hg1, hg2, k3⟩
      rw [ht]
      obtain ⟨u1, u2, u3⟩ := t
      have k1 : u1 = 2 := Nat.eq_of_beq_eq_true k1
      have k2 : u2 = (r : Int) := k2
      rw [k1, k2]
      rfl
    · cases h
  have hbig : ∀ {a r : Nat}, Sg a = some r → 1 ≤ r → r ≤ 245 → s.heap.size ≤ a := fun {a r} ha h1 h2 => by
    obtain ⟨g1, g2, -, hg1, -, hz⟩ := hR r h1 h2
    obtain ⟨g, k1, -, k3, -⟩ := hH a r ha
    rw [hg1] at k1
    cases k1
    exact k3 (zreg_mut hz)
  have hle : ∀ a r, Sg a = some r → 1 ≤ r → r ≤ 245 → zSg2 Sg t0 t1 t2 t3 t4 a = some r := fun a r ha h1 h2 => by
    have hb := hbig ha h1 h2
    exact zSg2_dyn ha h1 h2 (fun e => hlt hT0 (e ▸ hb)) (fun e => hlt hT1 (e ▸ hb)) (fun e => hlt hT2 (e ▸ hb)) (fun e => hlt hT3 (e ▸ hb)) (fun e => hlt hT4 (e ▸ hb))
  generalize hS2 : zSg2 Sg t0 t1 t2 t3 t4 = Sg2 at hle
  have s0 : Sg2 t0 = some 0 := by rw [← hS2]; unfold zSg2; rw [if_pos rfl]
  have s1 : Sg2 t1 = some 246 := by rw [← hS2]; unfold zSg2; rw [if_neg n01, if_pos rfl]
  have s2 : Sg2 t2 = some 247 := by rw [← hS2]; unfold zSg2; rw [if_neg n02, if_neg n12, if_pos rfl]
  have s3 : Sg2 t3 = some 248 := by rw [← hS2]; unfold zSg2; rw [if_neg n03, if_neg n13, if_neg n23, if_pos rfl]
  have s4 : Sg2 t4 = some 249 := by rw [← hS2]; unfold zSg2; rw [if_neg n04, if_neg n14, if_neg n24, if_neg n34, if_pos rfl]
  have hinv : ∀ {a r : Nat}, Sg2 a = some r → (r = 0 ∧ a = t0) ∨ (r = 246 ∧ a = t1) ∨ (r = 247 ∧ a = t2) ∨ (r = 248 ∧ a = t3) ∨ (r = 249 ∧ a = t4) ∨ (1 ≤ r ∧ r ≤ 245 ∧ Sg a = some r) := fun {a r} h => by
    rw [← hS2] at h
    exact zSg2_inv h
  have hH2 : sx_H D zCl zRT2 (zB1 s) Sg2 s H := by
    intro a r ha
    have huni : ∀ a', Sg2 a' = some r → a' = a := fun a' ha' => by
      rcases hinv ha with ⟨h1, h2⟩ | ⟨h1, h2⟩ | ⟨h1, h2⟩ | ⟨h1, h2⟩ | ⟨h1, h2⟩ | ⟨h1, h2, h3⟩ <;> rcases hinv ha' with ⟨g1, g2⟩ | ⟨g1, g2⟩ | ⟨g1, g2⟩ | ⟨g1, g2⟩ | ⟨g1, g2⟩ | ⟨g1, g2, g3⟩ <;> first | omega | exact sx_uniq hH h3 g3
    rcases hinv ha with ⟨rfl, rfl⟩ | ⟨rfl, rfl⟩ | ⟨rfl, rfl⟩ | ⟨rfl, rfl⟩ | ⟨rfl, rfl⟩ | ⟨h1, h2, h3⟩
    · obtain ⟨q1, q2⟩ := ztabJ_ok (D := D) ztab0 T0 Sg2
      exact ⟨zG250, rfl, q1, fun e => (by rw [q2] at e; cases e), huni⟩
    · obtain ⟨q1, q2⟩ := ztabI_ok (D := D) ztab1 T1 Sg2
      exact ⟨zG246, rfl, q1, fun e => (by rw [q2] at e; cases e), huni⟩
    · obtain ⟨q1, q2⟩ := ztabI_ok (D := D) ztab2 T2 Sg2
      exact ⟨zG247, rfl, q1, fun e => (by rw [q2] at e; cases e), huni⟩
    · obtain ⟨q1, q2⟩ := ztabI_ok (D := D) ztab3 T3 Sg2
      exact ⟨zG248, rfl, q1, fun e => (by rw [q2] at e; cases e), huni⟩
    · obtain ⟨q1, q2⟩ := ztabI_ok (D := D) ztab4 T4 Sg2
      exact ⟨zG249, rfl, q1, fun e => (by rw [q2] at e; cases e), huni⟩
    · obtain ⟨g1, g2, -, hg1, hg2, hz⟩ := hR r h1 h2
      exact ⟨g2, hg2, (zreg_ok hH hE hG.2.2.2.2.1 hG.2.2.2.2.2.1 hz hg1 h3 hle).1, fun _ => hbig h3 h1 h2, huni⟩
  have hadr : ∀ r : Nat, 1 ≤ r → r ≤ 245 → ∃ a, ρ[r]? = some (.ref a) ∧ Sg2 a = some r ∧ Sg a = some r := fun r h1 h2 => by
    obtain ⟨g1, g2, he, -, -, -⟩ := hR r h1 h2
    obtain ⟨v, v1, v2⟩ := sx_env_get hE he
    rcases v2 with ⟨k, -⟩ | ⟨k, -⟩ | ⟨-, a, rfl, ha⟩ | ⟨k, -⟩
    · cases k
    · cases k
    · have ha : Sg a = some r := by
        have : ((2, (r : Int), (E[r]?.getD (0, 0, 0)).2.2) : sx_Ty).2.1.toNat = r := Int.toNat_natCast r
        rw [this] at ha
        exact ha
      exact ⟨a, v1, hle a r ha h1 h2, ha⟩
    · cases k
  have hw : sx_Wd zNR zRT2 (zB1 s).1 Sg2 := by
    refine ⟨fun a r ha => ?_, fun r hr => ?_, fun a r g ha hg hm => ?_⟩
    · unfold zNR
      rcases hinv ha with ⟨h1, h2⟩ | ⟨h1, h2⟩ | ⟨h1, h2⟩ | ⟨h1, h2⟩ | ⟨h1, h2⟩ | ⟨h1, h2, h3⟩ <;> omega
    · have hr : r < 250 := hr
      by_cases h0 : r = 0
      · exact ⟨t0, by rw [h0]; exact s0⟩
      · by_cases h1 : r ≤ 245
        · obtain ⟨a, -, ha, -⟩ := hadr r (by omega) h1
          exact ⟨a, ha⟩
        · have hh : r = 246 ∨ r = 247 ∨ r = 248 ∨ r = 249 := by omega
          rcases hh with rfl | rfl | rfl | rfl
          · exact ⟨t1, s1⟩
          · exact ⟨t2, s2⟩
          · exact ⟨t3, s3⟩
          · exact ⟨t4, s4⟩
    · obtain ⟨g', k1, -, k3, -⟩ := hH2 a r ha
      rw [hg] at k1
      cases k1
      exact k3 hm
  have hH0 : sx_H D zCl (sx_fz 0 zRT2) (sx_bW zRT2 0 (zB1 s).1 Sg2, pm_J D zRT2 Sg2 zGm zJ) Sg2 s H := zH_fz hw.2.2 hH2
  obtain ⟨μ, m1, m2, m3⟩ := pm_down hH0
  -- numbers at the start
  have hz : ∀ r k : Nat, 1 ≤ r → r ≤ 245 → (∃ g t, zRT2 r = some g ∧ k < sx_wd g ∧ sx_ft g k = some t ∧ t.1 = 0 ∧ ∀ a v (cell : Cell), Sg a = some r → H[a]? = some cell → cell.slots[sx_sl D g k]? = some v → ∃ x : Int32, v = .int x ∧ x.toInt = 0) → μ r (k : Int) = 0 := fun r k h1 h2 hx => by
    obtain ⟨g, t, g1, g2, g3, g4, g5⟩ := hx
    obtain ⟨a, -, ha, ha1⟩ := hadr r h1 h2
    obtain ⟨g', k1, ⟨cell, k2, -, -⟩, -⟩ := hH2 a r ha
    obtain ⟨v, v1, v2⟩ := m2 a r g cell k t ha g1 k2 g2 g3 (by omega)
    obtain ⟨x, rfl, hx0⟩ := g5 a v cell ha1 k2 v1
    obtain ⟨y, hy, hy2⟩ := pm_v_int v2 g4
    cases hy
    have hy2 : x.toInt = μ r (k : Int) := hy2
    omega
  have hzA : ∀ r : Nat, (r = 213 ∨ r = 222 ∨ r = 245) → ∀ k g, zRT2 r = some g → k < sx_wd g → g.1 = 1 → (∃ t, sx_ft g k = some t ∧ t.1 = 0) → μ r (k : Int) = 0 := fun r hr k g hg hk hg1 ht => by
    obtain ⟨t, ht, ht0⟩ := ht
    refine hz r k (by omega) (by omega) ⟨g, t, hg, hk, ht, ht0, fun a v cell ha hc hv => ?_⟩
    have h := List.all_eq_true.mp cA r (by rcases hr with rfl | rfl | rfl <;> decide)
    split at h
    · rename_i q hq
      have q1 := sx_fnd_mem hq
      have q2 := Nat.eq_of_beq_eq_true (sx_fnd_some (α := Nat × sx_Ty × List Nat) (p := fun q => Nat.beq q.1 r) hq)
      simp only [Bool.and_eq_true, List.isEmpty_iff, decide_eq_true_eq] at h
      obtain ⟨a', r', g', cell', e1, e2, e3, e4, e5, e6⟩ := hG.2.2.2.2.2.1 q q1
      obtain rfl : r' = r := by rw [← e1]; exact q2
      obtain rfl : a' = a := sx_uniq hH ha e2
      rw [hc] at e5
      cases e5
      have hsl : sx_sl D g k = k := by unfold sx_sl; rw [if_neg (by omega)]
      rw [hsl] at hv
      obtain ⟨g1, g2, -, hg1', hg2', hzr⟩ := hR r' (by omega) (by omega)
      rw [e3] at hg1'
      cases hg1'
      rw [hg] at hg2'
      cases hg2'
      unfold zreg at hzr
      simp only [Bool.and_eq_true, Bool.or_eq_true] at hzr
      have hwd := Nat.eq_of_beq_eq_true hzr.1.2
      have := e6 k v (by omega) (by rw [h.1]; exact List.not_mem_nil) hv
      rw [h.2] at this
      rcases this with ⟨-, x, rfl, x1, x2⟩ | ⟨k1, -⟩ | ⟨k1, -⟩ | ⟨k1, -⟩
      · exact ⟨x, rfl, by have x1 : (0 : Int) ≤ x.toInt := x1; have x2 : x.toInt ≤ (0 : Int) := x2; omega⟩
      · cases k1
      · cases k1
      · cases k1
    · cases h
  have hzF : ∀ r : Nat, (r = 33 ∨ r = 35 ∨ r = 76 ∨ r = 78) → ∀ g, zRT2 r = some g → 1 < sx_wd g → (∃ t, sx_ft g 1 = some t ∧ t.1 = 0) → μ r 1 = 0 := fun r hr g hg hk ht => by
    obtain ⟨t, ht, ht0⟩ := ht
    refine hz r 1 (by omega) (by omega) ⟨g, t, hg, hk, ht, ht0, fun a v cell ha hc hv => ?_⟩
    have h := List.all_eq_true.mp cF r (by rcases hr with rfl | rfl | rfl | rfl <;> decide)
    split at h
    · rename_i av hav
      have h := of_decide_eq_true h
      subst h
      obtain ⟨g1, g2, -, hg1, hg2, hzr⟩ := hR r (by omega) (by omega)
      rw [hg] at hg2
      cases hg2
      unfold zreg at hzr
      simp only [Bool.and_eq_true, Bool.or_eq_true] at hzr
      have e1 := Nat.eq_of_beq_eq_true hzr.1.1.1.1.1
      have e2 := Nat.eq_of_beq_eq_true hzr.1.1.1.1.2
      obtain ⟨v', v1, v2⟩ := sx_fact_at hH (hG.2.2.2.2.1 _ (sx_fget_mem hav)) (sx_ix_con (by decide)) ha hg1 hc
      have hsl : sx_sl D g1 1 = sx_sl D g 1 := by unfold sx_sl; rw [e1, e2]
      rw [hsl, hv] at v1
      cases v1
      obtain ⟨x, rfl, hx⟩ := sx_av_int v2
      exact ⟨x, rfl, sx_lf_const hx rfl⟩
    · cases h
  have hJ : zJ μ := by
    refine zJ_0 (hzA 213 (Or.inl rfl) 0 zG213 rfl (by decide) rfl ⟨_, rfl, rfl⟩) (fun k k0 k1 => ?_) (fun k k0 k1 => ?_)
    · rw [show k = ((k.toNat : Nat) : Int) by omega]
      obtain ⟨q1, q2⟩ := zck222 k.toNat (by omega)
      exact hzA 222 (Or.inr (Or.inl rfl)) k.toNat zG222 rfl q1 rfl q2
    · rw [show k = ((k.toNat : Nat) : Int) by omega]
      exact hzA 245 (Or.inr (Or.inr rfl)) k.toNat zG245 rfl (by rw [show sx_wd zG245 = 2600 from rfl]; omega) rfl ⟨_, sx_ft1 (by decide) rfl rfl, rfl⟩
  have e33 := hzF 33 (Or.inl rfl) zG33 rfl (by decide) ⟨_, rfl, rfl⟩
  have e35 := hzF 35 (Or.inr (Or.inl rfl)) zG35 rfl (by decide) ⟨_, rfl, rfl⟩
  have e76 := hzF 76 (Or.inr (Or.inr (Or.inl rfl))) zG76 rfl (by decide) ⟨_, rfl, rfl⟩
  have e78 := hzF 78 (Or.inr (Or.inr (Or.inr rfl))) zG78 rfl (by decide) ⟨_, rfl, rfl⟩
  obtain ⟨ax, ax1, ax2, -⟩ := hadr 1 (by decide) (by decide)
  obtain ⟨am, am1, am2, -⟩ := hadr 205 (by decide) (by decide)
  -- the locals
  obtain ⟨w0, w01, w02⟩ := hFr.2.2.1 _ (sx_lk_mem l0)
  obtain ⟨w1, w11, w12⟩ := hFr.2.2.1 _ (sx_lk_mem l1)
  obtain ⟨w2, w21, w22⟩ := hFr.2.2.1 _ (sx_lk_mem l2)
  obtain ⟨w3, w31, w32⟩ := hFr.2.2.1 _ (sx_lk_mem l3)
  have href : ∀ {k : Nat} {w v : Value}, sx_av ρ (2, ((k : Int), [])) w → ρ[k]? = some v → w = v := fun {k w v} h hv => by
    rcases h with ⟨q, -⟩ | ⟨q, -⟩ | ⟨-, q, -⟩ | ⟨q, -⟩
    · cases q
    · cases q
    · have q : ρ[((k : Int)).toNat]? = some w := q
      rw [Int.toNat_natCast, hv] at q
      exact (Option.some.inj q).symm
    · cases q
  obtain rfl : w0 = .ref b := href (k := 0) w01 hρ
  obtain rfl : w1 = .ref ax := href (k := 1) w11 ax1
  obtain rfl : w2 = .ref am := href (k := 205) w21 am1
  obtain ⟨i, rfl, hi⟩ := sx_av_int w31
  have hi0 : i.toInt = 0 := sx_lf_const hi rfl
  have hstk : stk = [] := by
    have c4 : S = [] := List.isEmpty_iff.mp c4
    subst c4
    have := hFr.2.2.2
    cases stk with
    | nil => rfl
    | cons v r => exact this.elim
  refine ⟨Sg2, ax, am, i, hw, ⟨s0, s1, s2, s3, s4⟩, ax2, am2, hi0, ⟨hFr.1, hFr.2.1, fun q hq => ?_⟩, hstk, ⟨μ, ⟨hH0, m2, ⟨zTy_of hw m3, hJ⟩⟩, hV.1, by rw [e33, e35], by rw [e76, e78]⟩, by omega, by omega⟩
  simp only [zlv, List.mem_cons, List.not_mem_nil, or_false] at hq
  rcases hq with rfl | rfl | rfl | rfl
  · exact w02
  · exact w12
  · exact w22
  · exact w32
end WL2
