/-! the claim's own hooks: YEAR -/
/-- behind the reference's year: nothing is known of its letters any more -/
noncomputable def zyFA (r rm : Nat) (FA : sx_FA) : sx_FA := (sx_flt (fun x => sx_ab (sx_nb (Nat.beq x.1 r)) (sx_nb (sx_ab (Nat.beq x.1 rm) (Nat.beq x.2.1 62)))) FA.1, sx_flt (fun x => sx_nb (Nat.beq x.1 r)) FA.2.1, FA.2.2)
noncomputable def zm11 (bud : sx_Bu) (st : sx_St) : Option (List (Nat × sx_St)) := match st with
  | (((E, C, N, U), FA), (L, S), nc, ns) => match sx_lk L 0, sx_lk L 1, sx_lk L 2, S with
    | some (2, _), some (0, fy), some (0, fw), [] => if zbet E C fy 0 3999 = true ∧ zbet E C fw 0 0 = true ∧ 3 ≤ bud.1 ∧ zroom bud 67 nc ns = true then some [(21, zout E C N U FA nc ns 4 [fy, fw] (-2147483648) 2147483647)] else none
    | _, _, _, _ => none
set_option maxRecDepth 100000 in
theorem zm11_ok {L : Nat} {D : va_G} {b0 : Nat} {l : Launch} {Sg0 : Nat → Option Nat} {ρ0 : List Value} {bud : sx_Bu} {p : Program} {e : Env} {R : Room} {s : State} {m : MethodId} {args : Array Value} {below : List Frame} {meth : Method} {c : Code} {Q : State → Prop} {st : sx_St} {X : List (Nat × sx_St)} (h : zm11 bud st = some X) (hF : sx_Frm D zCl zAO zTB b0 zM100 bud p R s m args meth c)
    (hW : ∀ q ∈ X, sx_W zFT D zCl (sxRT L) b0 3 p l e R s m args below meth c Q Sg0 ρ0 q.1 q.2) : sx_W zFT D zCl (sxRT L) b0 3 p l e R s m args below meth c Q Sg0 ρ0 17 st := by
  obtain ⟨⟨⟨E, C, N, U⟩, FA⟩, ⟨L0, S⟩, nc, ns⟩ := st
  intro Sg H ρ ls stk locs hle hpre hP
  obtain ⟨hH, hG, ⟨hf1, hf2, hf3, hf4⟩, hV⟩ := hP
  have hE : sx_env Sg E ρ := hG.1
  have hCs : sx_cs C ρ := hG.2.1
  have hf3 : ∀ q ∈ L0, ∃ v, sx_av ρ q.2 v ∧ ls[q.1]? = some (.val v) := hf3
  unfold zm11 at h
  simp only at h
  split at h
  · rename_i z0 fy fw hl0 hl1 hl2
    split at h
    · rename_i hc
      obtain ⟨c0, c1, c2, c3⟩ := hc
      cases h
      obtain ⟨r1, r2, r3, r4⟩ := zroom_ok c3
      obtain ⟨th, e0⟩ := zlk_ref hf3 hl0
      obtain ⟨y, hy, e1⟩ := zlk_int hf3 hl1
      obtain ⟨w, hw, e2⟩ := zlk_int hf3 hl2
      obtain ⟨y0, y1⟩ := zbet_ok hE hCs hy c0
      have hst := zstk0 hf4
      subst hst
      have hl : lv_has ls 3 [(0, .ref th), (1, .int y), (2, .int w)] := ⟨hf1, hf2, fun q hq => by
        simp only [List.mem_cons, List.not_mem_nil, or_false] at hq
        rcases hq with rfl | rfl | rfl
        · exact e0
        · exact e1
        · exact e2⟩
      have hw0 := zbet_ok hE hCs hw c1
      refine zw_year0 (Y := y.toInt.toNat) hF (by omega) (by omega) r3 r4 hH hV hl (by omega) (fun a ls' locs' hV' ha hl' => ?_)
      refine zout_ok hH hG hV' hle hpre hl' (k := 4) (xs := [y.toInt, w.toInt]) (by simp [hy, hw]) ?_ (by simpa using Int32.le_toInt _) (Int.le_of_lt_add_one (by simpa using Int32.toInt_lt _)) (hW _ List.mem_cons_self)
      show a.toInt = zya y.toInt.toNat w.toInt
      rw [ha]
      unfold zya
      rw [if_pos (by omega)]
    · cases h
  · cases h
noncomputable def zm12 (bud : sx_Bu) (st : sx_St) : Option (List (Nat × sx_St)) := match st with
  | (((E, C, N, U), FA), (L, S), nc, ns) => match sx_lk L 0, sx_lk L 1, sx_lk L 2, S with
    | some (2, _), some (0, fy), some (0, fw), [] => if zbet E C fy 0 3999 = true ∧ sx_ge E C fw = true ∧ 3 ≤ bud.1 ∧ zroom bud 67 nc ns = true then some [(41, zout E C N U FA nc ns 5 [fy, fw] (-2147483648) 2147483647)] else none
    | _, _, _, _ => none
set_option maxRecDepth 100000 in
theorem zm12_ok {L : Nat} {D : va_G} {b0 : Nat} {l : Launch} {Sg0 : Nat → Option Nat} {ρ0 : List Value} {bud : sx_Bu} {p : Program} {e : Env} {R : Room} {s : State} {m : MethodId} {args : Array Value} {below : List Frame} {meth : Method} {c : Code} {Q : State → Prop} {st : sx_St} {X : List (Nat × sx_St)} (h : zm12 bud st = some X) (hF : sx_Frm D zCl zAO zTB b0 zM100 bud p R s m args meth c)
    (hW : ∀ q ∈ X, sx_W zFT D zCl (sxRT L) b0 3 p l e R s m args below meth c Q Sg0 ρ0 q.1 q.2) : sx_W zFT D zCl (sxRT L) b0 3 p l e R s m args below meth c Q Sg0 ρ0 33 st := by
  obtain ⟨⟨⟨E, C, N, U⟩, FA⟩, ⟨L0, S⟩, nc, ns⟩ := st
  intro Sg H ρ ls stk locs hle hpre hP
  obtain ⟨hH, hG, ⟨hf1, hf2, hf3, hf4⟩, hV⟩ := hP
  have hE : sx_env Sg E ρ := hG.1
  have hCs : sx_cs C ρ := hG.2.1
  have hf3 : ∀ q ∈ L0, ∃ v, sx_av ρ q.2 v ∧ ls[q.1]? = some (.val v) := hf3
  unfold zm12 at h
  simp only at h
  split at h
  · rename_i z0 fy fw hl0 hl1 hl2
    split at h
    · rename_i hc
      obtain ⟨c0, c1, c2, c3⟩ := hc
      cases h
      obtain ⟨r1, r2, r3, r4⟩ := zroom_ok c3
      obtain ⟨th, e0⟩ := zlk_ref hf3 hl0
      obtain ⟨y, hy, e1⟩ := zlk_int hf3 hl1
      obtain ⟨w, hw, e2⟩ := zlk_int hf3 hl2
      obtain ⟨y0, y1⟩ := zbet_ok hE hCs hy c0
      have hst := zstk0 hf4
      subst hst
      have hl : lv_has ls 3 [(0, .ref th), (1, .int y), (2, .int w)] := ⟨hf1, hf2, fun q hq => by
        simp only [List.mem_cons, List.not_mem_nil, or_false] at hq
        rcases hq with rfl | rfl | rfl
        · exact e0
        · exact e1
        · exact e2⟩
      have hw0 := sx_ge_ok hE hCs hw c1
      refine zw_year1 (Y := y.toInt.toNat) hF c2 r2 r3 r4 hH hV hl (by omega) (by omega) hw0 (fun a ls' locs' hV' ha hl' => ?_)
      exact zout_ok hH hG hV' hle hpre hl' (k := 5) (xs := [y.toInt, w.toInt]) (by simp [hy, hw]) ha (by simpa using Int32.le_toInt _) (Int.le_of_lt_add_one (by simpa using Int32.toInt_lt _)) (hW _ List.mem_cons_self)
    · cases h
  · cases h
noncomputable def zm13 (bud : sx_Bu) (st : sx_St) : Option (List (Nat × sx_St)) := match st with
  | (((E, C, N, U), FA), (L, S), nc, ns) => match sx_lk L 0, sx_lk L 1, sx_lk L 2, S with
    | some (2, _), some (0, fy), some (0, fw), [] => if zbet E C fy 0 3999 = true ∧ sx_nz E C N fw = true ∧ 3 ≤ bud.1 ∧ zroom bud 67 nc ns = true then some [(49, zout E C N U FA nc ns 4 [fy, fw] (-2147483648) 2147483647)] else none
    | _, _, _, _ => none
set_option maxRecDepth 100000 in
theorem zm13_ok {L : Nat} {D : va_G} {b0 : Nat} {l : Launch} {Sg0 : Nat → Option Nat} {ρ0 : List Value} {bud : sx_Bu} {p : Program} {e : Env} {R : Room} {s : State} {m : MethodId} {args : Array Value} {below : List Frame} {meth : Method} {c : Code} {Q : State → Prop} {st : sx_St} {X : List (Nat × sx_St)} (h : zm13 bud st = some X) (hF : sx_Frm D zCl zAO zTB b0 zM100 bud p R s m args meth c)
    (hW : ∀ q ∈ X, sx_W zFT D zCl (sxRT L) b0 3 p l e R s m args below meth c Q Sg0 ρ0 q.1 q.2) : sx_W zFT D zCl (sxRT L) b0 3 p l e R s m args below meth c Q Sg0 ρ0 42 st := by
  obtain ⟨⟨⟨E, C, N, U⟩, FA⟩, ⟨L0, S⟩, nc, ns⟩ := st
  intro Sg H ρ ls stk locs hle hpre hP
  obtain ⟨hH, hG, ⟨hf1, hf2, hf3, hf4⟩, hV⟩ := hP
  have hE : sx_env Sg E ρ := hG.1
  have hCs : sx_cs C ρ := hG.2.1
  have hf3 : ∀ q ∈ L0, ∃ v, sx_av ρ q.2 v ∧ ls[q.1]? = some (.val v) := hf3
  unfold zm13 at h
  simp only at h
  split at h
  · rename_i z0 fy fw hl0 hl1 hl2
    split at h
    · rename_i hc
      obtain ⟨c0, c1, c2, c3⟩ := hc
      cases h
      obtain ⟨r1, r2, r3, r4⟩ := zroom_ok c3
      obtain ⟨th, e0⟩ := zlk_ref hf3 hl0
      obtain ⟨y, hy, e1⟩ := zlk_int hf3 hl1
      obtain ⟨w, hw, e2⟩ := zlk_int hf3 hl2
      obtain ⟨y0, y1⟩ := zbet_ok hE hCs hy c0
      have hst := zstk0 hf4
      subst hst
      have hl : lv_has ls 3 [(0, .ref th), (1, .int y), (2, .int w)] := ⟨hf1, hf2, fun q hq => by
        simp only [List.mem_cons, List.not_mem_nil, or_false] at hq
        rcases hq with rfl | rfl | rfl
        · exact e0
        · exact e1
        · exact e2⟩
      have hw0 := sx_nz_ok hE hCs hG.2.2.1 hw c1
      have hyn : ((y.toInt.toNat : Nat) : Int) = y.toInt := by omega
      obtain ⟨q1, q2, q3⟩ := zyw_ok (show y.toInt.toNat ≤ 3999 by omega)
      rw [hyn] at q1
      refine zw_year2 hF (by omega) (by omega) r3 r4 hH hV hl y0 (by omega) (by rw [← q1]; omega) (fun ls' locs' hV' hl' => ?_)
      refine zout_ok hH hG hV' hle hpre hl' (k := 4) (xs := [y.toInt, w.toInt]) (by simp [hy, hw]) ?_ (by simpa using Int32.le_toInt _) (Int.le_of_lt_add_one (by simpa using Int32.toInt_lt _)) (hW _ List.mem_cons_self)
      show _ = zya y.toInt.toNat w.toInt
      unfold zya
      rw [if_neg hw0, hyn]
    · cases h
  · cases h
noncomputable def zm14 (bud : sx_Bu) (st : sx_St) : Option (List (Nat × sx_St)) := match st with
  | (((E, C, N, U), FA), (L, S), nc, ns) => match sx_lk L 0, sx_lk L 1, sx_lk L 2, S with
    | some a0, some (0, fy), some (0, fw), [] => match sx_reg E (sxRT 6) a0 with
      | some (_, rm, gm) => match sx_fget FA.1 rm 61 with
        | some a => match sx_reg E (sxRT 6) a with
          | some (z, r, g) => if (Nat.beq rm 0 = false ∧ gm.1 = 0 ∧ gm.2.1 = 12 ∧ a = (2, ((z : Int), [])) ∧ 62 < sx_wd gm ∧ sx_ft gm 62 = some (0, -2147483648, 2147483647)) ∧ (Nat.beq r 0 = false ∧ Nat.beq rm r = false ∧ zint g 20 = true ∧ g.2.1 = 20) ∧ (sx_lk L 3 = some (0, (0, [])) ∧ sx_lk L 4 = some (0, (1, [])) ∧ sx_ge E C fw = true) ∧ zbet E C fy 0 3999 = true ∧ 3 ≤ bud.1 ∧ zroom bud 65 nc ns = true then
              some [(70, zout E C N U (zyFA r rm FA) nc ns 5 [fy, fw] (-2147483648) 2147483647)] else none
          | none => none
        | none => none
      | none => none
    | _, _, _, _ => none
set_option maxRecDepth 100000 in
theorem zm14_ok {L : Nat} {D : va_G} {b0 : Nat} {l : Launch} {Sg0 : Nat → Option Nat} {ρ0 : List Value} {bud : sx_Bu} {p : Program} {e : Env} {R : Room} {s : State} {m : MethodId} {args : Array Value} {below : List Frame} {meth : Method} {c : Code} {Q : State → Prop} {st : sx_St} {X : List (Nat × sx_St)} (h : zm14 bud st = some X) (hF : sx_Frm D zCl zAO zTB b0 zM192 bud p R s m args meth c)
    (hW : ∀ q ∈ X, sx_W zFT D zCl (sxRT L) b0 5 p l e R s m args below meth c Q Sg0 ρ0 q.1 q.2) : sx_W zFT D zCl (sxRT L) b0 5 p l e R s m args below meth c Q Sg0 ρ0 36 st := by
  obtain ⟨⟨⟨E, C, N, U⟩, FA⟩, ⟨L0, S⟩, nc, ns⟩ := st
  intro Sg H ρ ls stk locs hle hpre hP
  obtain ⟨hH, hG, ⟨hf1, hf2, hf3, hf4⟩, hV⟩ := hP
  have hE : sx_env Sg E ρ := hG.1
  have hCs : sx_cs C ρ := hG.2.1
  have hf3 : ∀ q ∈ L0, ∃ v, sx_av ρ q.2 v ∧ ls[q.1]? = some (.val v) := hf3
  unfold zm14 at h
  simp only at h
  split at h
  · rename_i a0 fy fw hl0 hl1 hl2
    split at h
    · rename_i z00 rm gm hregm
      split at h
      · rename_i a hfa
        split at h
        · rename_i z r g hreg
          split at h
          · rename_i hc
            obtain ⟨⟨c0, c1, c2, c3, c31, c32⟩, ⟨c4, c5, c6, c61⟩, c7, c8, c9, c10⟩ := hc
            cases h
            obtain ⟨g1, g2, g3⟩ := zint_ok c6
            obtain ⟨r1, r2, r3, r4⟩ := zroom_ok c10
            have hrm0 : rm ≠ 0 := fun h => by rw [h] at c0; cases c0
            have hr0 : r ≠ 0 := fun h => by rw [h] at c4; cases c4
            have hrr : rm ≠ r := fun h => by rw [h, Nat.beq_refl] at c5; cases c5
            obtain ⟨v, v1, e0⟩ := hf3 _ (sx_lk_mem hl0)
            obtain ⟨th, cellm, rfl, -, k2, k3, -, k4, -, -, k6⟩ := sx_reg_ok (zreg6 (L := L) hregm hrm0) hE hH v1
            have hfm := sx_fget_mem hfa
            obtain ⟨-, -, -, -, w, -, -, -, -, -, -, hw⟩ := hG.2.2.2.2.1 _ hfm
            have hw : sx_av ρ a w := hw
            obtain ⟨ad, cell, rfl, j1, j2, j3, -⟩ := sx_reg_ok (zreg6 (L := L) hreg hr0) hE hH hw
            rw [g1] at j3
            obtain ⟨y, hy, e1⟩ := zlk_int hf3 hl1
            obtain ⟨w, hw, e2⟩ := zlk_int hf3 hl2
            obtain ⟨y0, y1⟩ := zbet_ok hE hCs hy c8
            have hst := zstk0 hf4
            subst hst
            obtain ⟨f, hf⟩ := pa_some hH j2 j3
            obtain ⟨vv, tt, s1, s2, s3⟩ := k6 62 c31
            rw [c32] at s2
            cases s2
            obtain ⟨v0, rfl⟩ : ∃ x : Int32, vv = .int x := by
              rcases s3 with ⟨-, x, rfl, -⟩ | ⟨q, -⟩ | ⟨q, -⟩ | ⟨q, -⟩
              · exact ⟨x, rfl⟩
              · exact absurd (show (0 : Nat) = 1 from q) (by decide)
              · exact absurd (show (0 : Nat) = 2 from q) (by decide)
              · exact absurd (show (0 : Nat) = 3 from q) (by decide)
            rw [sx_sl0 c1, c2] at s1
            have hPy : py_P zFT D (sxRT L) Sg ρ ((E, C, N, U), zyFA r rm FA) ad r g.2.1 th H f v0 := ⟨⟨hG.1, hG.2.1, hG.2.2.1, hG.2.2.2.1, fun x hx => hG.2.2.2.2.1 x (sx_mem_flt.mp hx).1, fun x hx => hG.2.2.2.2.2.1 x (sx_mem_flt.mp hx).1, hG.2.2.2.2.2.2⟩, hf, cellm, k4, s1⟩
            have hT : py_T (sxRT L) Sg ρ (zyFA r rm FA) ad r th rm z gm := by
              refine ⟨⟨k2, k3, c1, c2, sx_mem_flt.mpr ⟨by rw [← c3]; exact hfm, by simp [sx_nb_eq, sx_ab_eq, sx_beq_eq, hrr]⟩, j1⟩, ⟨fun x hx hq => ?_, fun x hx hq => ?_⟩, fun x hx hq hq2 => ?_, c31, c32, hrr⟩
              · have := (sx_mem_flt.mp hx).2
                simp [sx_nb_eq, sx_ab_eq, sx_beq_eq, hq] at this
              · have := (sx_mem_flt.mp hx).2
                simp [sx_nb_eq, sx_beq_eq, hq] at this
              · have := (sx_mem_flt.mp hx).2
                simp [sx_nb_eq, sx_ab_eq, sx_beq_eq, hq, hq2] at this
            obtain ⟨c71, c72, c73⟩ := c7
            have hw0 := sx_ge_ok hE hCs hw c73
            obtain ⟨a3, ha3, e3⟩ := zlk_c hf3 c71
            obtain ⟨i4, hi4, e4⟩ := zlk_c hf3 c72
            have hl : lv_has ls 5 [(0, .ref th), (1, .int y), (2, .int w), (3, .int a3), (4, .int i4)] := ⟨hf1, hf2, fun q hq => by
              simp only [List.mem_cons, List.not_mem_nil, or_false] at hq
              rcases hq with rfl | rfl | rfl | rfl | rfl
              · exact e0
              · exact e1
              · exact e2
              · exact e3
              · exact e4⟩
            refine zw_myears (Nn := y.toInt.toNat) hF c9 r2 r3 r4 c61 hT (by omega) (by omega) hw0 (fun a H' locs' f' v' ls' hH' hV' hP' ha hl' => ?_) y.toInt.toNat 0 (Nat.zero_add _) hH hV hPy (by rw [hi4]; rfl) (by rw [ha3]; rfl) hl
            exact zout_ok hH' hP'.1 hV' hle hpre hl' (k := 5) (xs := [y.toInt, w.toInt]) (by simp [hy, hw]) ha (by simpa using Int32.le_toInt _) (Int.le_of_lt_add_one (by simpa using Int32.toInt_lt _)) (hW _ List.mem_cons_self)
          · cases h
        · cases h
      · cases h
    · cases h
  · cases h
noncomputable def zm15 (bud : sx_Bu) (st : sx_St) : Option (List (Nat × sx_St)) := match st with
  | (((E, C, N, U), FA), (L, S), nc, ns) => match sx_lk L 0, sx_lk L 1, sx_lk L 2, S with
    | some a0, some (0, fy), some (0, fw), [] => match sx_reg E (sxRT 6) a0 with
      | some (_, rm, gm) => match sx_fget FA.1 rm 61 with
        | some a => match sx_reg E (sxRT 6) a with
          | some (z, r, g) => if (Nat.beq rm 0 = false ∧ gm.1 = 0 ∧ gm.2.1 = 12 ∧ a = (2, ((z : Int), [])) ∧ 62 < sx_wd gm ∧ sx_ft gm 62 = some (0, -2147483648, 2147483647)) ∧ (Nat.beq r 0 = false ∧ Nat.beq rm r = false ∧ zint g 20 = true ∧ g.2.1 = 20) ∧ (True) ∧ zbet E C fy 0 3999 = true ∧ 3 ≤ bud.1 ∧ zroom bud 65 nc ns = true then
              some [(112, zout E C N U (zyFA r rm FA) nc ns 4 [fy, fw] (-2147483648) 2147483647)] else none
          | none => none
        | none => none
      | none => none
    | _, _, _, _ => none
set_option maxRecDepth 100000 in
theorem zm15_ok {L : Nat} {D : va_G} {b0 : Nat} {l : Launch} {Sg0 : Nat → Option Nat} {ρ0 : List Value} {bud : sx_Bu} {p : Program} {e : Env} {R : Room} {s : State} {m : MethodId} {args : Array Value} {below : List Frame} {meth : Method} {c : Code} {Q : State → Prop} {st : sx_St} {X : List (Nat × sx_St)} (h : zm15 bud st = some X) (hF : sx_Frm D zCl zAO zTB b0 zM192 bud p R s m args meth c)
    (hW : ∀ q ∈ X, sx_W zFT D zCl (sxRT L) b0 5 p l e R s m args below meth c Q Sg0 ρ0 q.1 q.2) : sx_W zFT D zCl (sxRT L) b0 5 p l e R s m args below meth c Q Sg0 ρ0 71 st := by
  obtain ⟨⟨⟨E, C, N, U⟩, FA⟩, ⟨L0, S⟩, nc, ns⟩ := st
  intro Sg H ρ ls stk locs hle hpre hP
  obtain ⟨hH, hG, ⟨hf1, hf2, hf3, hf4⟩, hV⟩ := hP
  have hE : sx_env Sg E ρ := hG.1
  have hCs : sx_cs C ρ := hG.2.1
  have hf3 : ∀ q ∈ L0, ∃ v, sx_av ρ q.2 v ∧ ls[q.1]? = some (.val v) := hf3
  unfold zm15 at h
  simp only at h
  split at h
  · rename_i a0 fy fw hl0 hl1 hl2
    split at h
    · rename_i z00 rm gm hregm
      split at h
      · rename_i a hfa
        split at h
        · rename_i z r g hreg
          split at h
          · rename_i hc
            obtain ⟨⟨c0, c1, c2, c3, c31, c32⟩, ⟨c4, c5, c6, c61⟩, c7, c8, c9, c10⟩ := hc
            cases h
            obtain ⟨g1, g2, g3⟩ := zint_ok c6
            obtain ⟨r1, r2, r3, r4⟩ := zroom_ok c10
            have hrm0 : rm ≠ 0 := fun h => by rw [h] at c0; cases c0
            have hr0 : r ≠ 0 := fun h => by rw [h] at c4; cases c4
            have hrr : rm ≠ r := fun h => by rw [h, Nat.beq_refl] at c5; cases c5
            obtain ⟨v, v1, e0⟩ := hf3 _ (sx_lk_mem hl0)
            obtain ⟨th, cellm, rfl, -, k2, k3, -, k4, -, -, k6⟩ := sx_reg_ok (zreg6 (L := L) hregm hrm0) hE hH v1
            have hfm := sx_fget_mem hfa
            obtain ⟨-, -, -, -, w, -, -, -, -, -, -, hw⟩ := hG.2.2.2.2.1 _ hfm
            have hw : sx_av ρ a w := hw
            obtain ⟨ad, cell, rfl, j1, j2, j3, -⟩ := sx_reg_ok (zreg6 (L := L) hreg hr0) hE hH hw
            rw [g1] at j3
            obtain ⟨y, hy, e1⟩ := zlk_int hf3 hl1
            obtain ⟨w, hw, e2⟩ := zlk_int hf3 hl2
            obtain ⟨y0, y1⟩ := zbet_ok hE hCs hy c8
            have hst := zstk0 hf4
            subst hst
            obtain ⟨f, hf⟩ := pa_some hH j2 j3
            obtain ⟨vv, tt, s1, s2, s3⟩ := k6 62 c31
            rw [c32] at s2
            cases s2
            obtain ⟨v0, rfl⟩ : ∃ x : Int32, vv = .int x := by
              rcases s3 with ⟨-, x, rfl, -⟩ | ⟨q, -⟩ | ⟨q, -⟩ | ⟨q, -⟩
              · exact ⟨x, rfl⟩
              · exact absurd (show (0 : Nat) = 1 from q) (by decide)
              · exact absurd (show (0 : Nat) = 2 from q) (by decide)
              · exact absurd (show (0 : Nat) = 3 from q) (by decide)
            rw [sx_sl0 c1, c2] at s1
            have hPy : py_P zFT D (sxRT L) Sg ρ ((E, C, N, U), zyFA r rm FA) ad r g.2.1 th H f v0 := ⟨⟨hG.1, hG.2.1, hG.2.2.1, hG.2.2.2.1, fun x hx => hG.2.2.2.2.1 x (sx_mem_flt.mp hx).1, fun x hx => hG.2.2.2.2.2.1 x (sx_mem_flt.mp hx).1, hG.2.2.2.2.2.2⟩, hf, cellm, k4, s1⟩
            have hT : py_T (sxRT L) Sg ρ (zyFA r rm FA) ad r th rm z gm := by
              refine ⟨⟨k2, k3, c1, c2, sx_mem_flt.mpr ⟨by rw [← c3]; exact hfm, by simp [sx_nb_eq, sx_ab_eq, sx_beq_eq, hrr]⟩, j1⟩, ⟨fun x hx hq => ?_, fun x hx hq => ?_⟩, fun x hx hq hq2 => ?_, c31, c32, hrr⟩
              · have := (sx_mem_flt.mp hx).2
                simp [sx_nb_eq, sx_ab_eq, sx_beq_eq, hq] at this
              · have := (sx_mem_flt.mp hx).2
                simp [sx_nb_eq, sx_beq_eq, hq] at this
              · have := (sx_mem_flt.mp hx).2
                simp [sx_nb_eq, sx_ab_eq, sx_beq_eq, hq, hq2] at this
            have hl : lv_has ls 5 [(0, .ref th), (1, .int y), (2, .int w)] := ⟨hf1, hf2, fun q hq => by
              simp only [List.mem_cons, List.not_mem_nil, or_false] at hq
              rcases hq with rfl | rfl | rfl
              · exact e0
              · exact e1
              · exact e2⟩
            refine zw_myear (Nn := y.toInt.toNat) hF c9 r2 r3 r4 c61 hT (by omega) (by omega) hH hV hPy hl (fun a H' locs' f' v' ls' hH' hV' hP' ha hl' => ?_)
            exact zout_ok hH' hP'.1 hV' hle hpre hl' (k := 4) (xs := [y.toInt, w.toInt]) (by simp [hy, hw]) ha (by simpa using Int32.le_toInt _) (Int.le_of_lt_add_one (by simpa using Int32.toInt_lt _)) (hW _ List.mem_cons_self)
          · cases h
        · cases h
      · cases h
    · cases h
  · cases h
