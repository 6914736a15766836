/-! YEAR: the reference's: what it writes -/
def zup (f : Nat → Int32) (k : Nat) (x : Int32) : Nat → Int32 := fun j => if j = k then x else f j
def zwr : (Nat → Int32) → Nat → List Int32 → Nat → Int32
  | f, _, [] => f
  | f, V, x :: l => zwr (zup f V x) (V + 1) l
theorem zwr_app : ∀ (a b : List Int32) (f : Nat → Int32) (V : Nat), zwr f V (a ++ b) = zwr (zwr f V a) (V + a.length) b
  | [], b, f, V => rfl
  | x :: a, b, f, V => by
    rw [List.cons_append]
    simp only [zwr, List.length_cons]
    rw [zwr_app a b]
    congr 1; omega
theorem zwr_lo : ∀ (l : List Int32) (f : Nat → Int32) (V j : Nat), j < V → zwr f V l j = f j
  | [], f, V, j, h => rfl
  | x :: l, f, V, j, h => by
    simp only [zwr]
    rw [zwr_lo l _ _ _ (by omega)]
    exact if_neg (by omega)
theorem zwr_get : ∀ (l : List Int32) (f : Nat → Int32) (V k : Nat) (x0 : Int32), k < l.length → zwr f V l (V + k) = l.getD k x0
  | [], f, V, k, x0, h => absurd h (Nat.not_lt_zero k)
  | x :: l, f, V, 0, x0, h => by
    simp only [zwr]
    rw [zwr_lo l _ _ _ (by omega)]
    exact if_pos rfl
  | x :: l, f, V, k + 1, x0, h => by
    simp only [zwr]
    rw [show V + (k + 1) = V + 1 + k by omega, zwr_get l _ _ _ x0 (Nat.lt_of_succ_lt_succ h)]
    rfl
def zwd (d : Nat) (o : Int32) : List Int32 := if d = 9 then [o, o + Int32.ofInt 2] else if d = 4 then [o, o + Int32.ofInt 1] else (if 4 < d then [o + Int32.ofInt 1] else []) ++ List.replicate (d % 5) o
def zyw (y : Nat) : List Int32 := zwd (y / 1000) (b8 6) ++ (zwd (y / 100 % 10) (Int32.ofInt 4) ++ (zwd (y / 10 % 10) (Int32.ofInt 2) ++ zwd (y % 10) (Int32.ofInt 0)))
theorem zwd_len {d : Nat} (o : Int32) (h : d ≤ 9) : (zwd d o).length ≤ 4 := by
  have : d = 0 ∨ d = 1 ∨ d = 2 ∨ d = 3 ∨ d = 4 ∨ d = 5 ∨ d = 6 ∨ d = 7 ∨ d = 8 ∨ d = 9 := by omega
  rcases this with rfl | rfl | rfl | rfl | rfl | rfl | rfl | rfl | rfl | rfl <;> exact Nat.le_of_ble_eq_true rfl
set_option maxRecDepth 100000 in
theorem zyw_all : (List.range 4000).all (fun y => decide (zyw y = zcw 13 0 (y : Int)) && Nat.beq (zyw y).length (zyk 4 y) && Nat.ble (zyk 4 y) 16) = true := by decide +kernel
theorem zyw_ok {y : Nat} (h : y ≤ 3999) : zyw y = zcw 13 0 (y : Int) ∧ (zyw y).length = zyk 4 y ∧ zyk 4 y ≤ 16 := by
  have := List.all_eq_true.mp zyw_all y (List.mem_range.mpr (by omega))
  simp only [Bool.and_eq_true, decide_eq_true_eq] at this
  exact ⟨this.1.1, Nat.eq_of_beq_eq_true this.1.2, Nat.le_of_ble_eq_true this.2⟩
/-- what holds of the letters' array and their number -/
def py_P (FT : Nat → List Int → Int) (D : va_G) (RT : Nat → Option sx_Rg) (Sg : Nat → Option Nat) (ρ : List Value) (K : sx_Kn) (q r n th : Nat) (H : Heap) (f : Nat → Int32) (v : Int32) : Prop := sx_G FT D RT Sg H ρ K ∧ pa_arr RT Sg H q r n f ∧ ∃ cell : Cell, H[th]? = some cell ∧ cell.slots[D.2 12 62]? = some (.int v)
def py_T (RT : Nat → Option sx_Rg) (Sg : Nat → Option Nat) (ρ : List Value) (FA : sx_FA) (q r th rm z0 : Nat) (g : sx_Rg) : Prop := zthere RT Sg ρ FA q th rm z0 61 g ∧ pa_off r FA ∧ (∀ x ∈ FA.1, x.1 = rm → x.2.1 ≠ 62) ∧ 62 < sx_wd g ∧ sx_ft g 62 = some (0, -2147483648, 2147483647) ∧ rm ≠ r
section PYA
variable {FT : Nat → List Int → Int} {L : Nat} {D : va_G} {b0 : Nat} {l : Launch} {Sg : Nat → Option Nat} {bud : sx_Bu} {nc ns : Nat} {p : Program} {e : Env} {R : Room} {s : State} {m : MethodId} {args : Array Value} {below : List Frame} {meth : Method} {c : Code} {Q : State → Prop} {ρ : List Value} {K1 : List sx_Ty × List sx_LF × List sx_LF × List (Nat × List sx_LF × Nat)} {FA : sx_FA} {q r n th rm z0 : Nat} {g : sx_Rg} {H : Heap} {locs : List Loc} {f : Nat → Int32} {v : Int32} {M0 : sx_Me} {pc : Nat} {ls : Array Slot} {rest : List Value}
theorem py_ne (hT : py_T (sxRT L) Sg ρ FA q r th rm z0 g) (hP : py_P FT D (sxRT L) Sg ρ (K1, FA) q r n th H f v) : th ≠ q := fun h => by
  have h1 := hT.1.1
  have h2 := hP.2.1.1
  rw [h, h2] at h1
  exact hT.2.2.2.2.2 (Option.some.inj h1).symm
theorem py_cell (hT : py_T (sxRT L) Sg ρ FA q r th rm z0 g) (hH : sx_H D zCl (sxRT L) b0 Sg s H) (hP : py_P FT D (sxRT L) Sg ρ (K1, FA) q r n th H f v) : ∃ cell : Cell, H[th]? = some cell ∧ cell.cls = D.1 12 ∧ cell.vm = .none ∧ b0 ≤ th ∧ cell.slots[D.2 12 62]? = some (.int v) := by
  obtain ⟨cell, h1, h2⟩ := hP.2.2
  obtain ⟨g', k1, ⟨cell', k2, k3, k4⟩, k5⟩ := hH th rm hT.1.1
  rw [hT.1.2.1] at k1
  cases k1
  rw [h1] at k2
  cases k2
  rcases k3 with ⟨-, x1, x2⟩ | ⟨x1, -⟩
  · exact ⟨cell, h1, by rw [x1, hT.1.2.2.2.1], x2, k5.1 (by unfold sx_mut; rw [hT.1.2.2.1]; rfl), h2⟩
  · exact absurd hT.1.2.2.1 x1
theorem py_get (hM0 : M0 ∈ zMT.flatten) (hown : zD12.1 = M0.1.1.cls) (hrow : sx_row M0.2.1 pc = some (pc, .getfield 483, 3)) (hF : sx_Frm D zCl zAO zTB b0 M0 bud p R s m args meth c) (hT : py_T (sxRT L) Sg ρ FA q r th rm z0 g) (hH : sx_H D zCl (sxRT L) b0 Sg s H) (hP : py_P FT D (sxRT L) Sg ρ (K1, FA) q r n th H f v)
    (kk : W p l e R s m args below meth c H locs nc ns Q (F0 m (pc + 3) ls (.int v :: rest))) : W p l e R s m args below meth c H locs nc ns Q (F0 m pc ls (.ref th :: rest)) := by
  have hcd := (zHda zD12 (by decide +kernel) args s hF.1.2.2.2.2 hF.2.1.2.1).1
  rw [hown] at hcd
  obtain ⟨cell, h1, h2, h3, -, h4⟩ := py_cell hT hH hP
  exact sx_Wget (q := (483, 12, 62, 0, 0)) hF.1 hF.2.1.1 zclok (hcd.2.2.1 _ (by decide +kernel)) h1 h2 h3 h4 (pv_row (zHme M0 hM0).1 hrow) kk
theorem py_arr (hM0 : M0 ∈ zMT.flatten) (hown : zD12.1 = M0.1.1.cls) (hrow : sx_row M0.2.1 pc = some (pc, .getfield 117, 3)) (hF : sx_Frm D zCl zAO zTB b0 M0 bud p R s m args meth c) (hT : py_T (sxRT L) Sg ρ FA q r th rm z0 g) (hH : sx_H D zCl (sxRT L) b0 Sg s H) (hV : va_S (fun q => b0 ≤ q) s.heap H locs) (hP : py_P FT D (sxRT L) Sg ρ (K1, FA) q r n th H f v)
    (kk : W p l e R s m args below meth c H locs nc ns Q (F0 m (pc + 3) ls (.ref q :: rest))) : W p l e R s m args below meth c H locs nc ns Q (F0 m pc ls (.ref th :: rest)) :=
  zw_there (117, 12, 61, 3, 1) (by decide +kernel) rfl rfl hM0 hown hrow hF hT.1 (show pa_I FT D zCl (sxRT L) b0 s Sg ρ (K1, FA) q r n H locs f from ⟨hH, hP.1, hV, hP.2.1⟩) kk
/-- the letters' number is written -/
theorem py_put {x : Int32} (hM0 : M0 ∈ zMT.flatten) (hown : zD12.1 = M0.1.1.cls) (hrow : sx_row M0.2.1 pc = some (pc, .putfield 483, 3)) (hF : sx_Frm D zCl zAO zTB b0 M0 bud p R s m args meth c) (hT : py_T (sxRT L) Sg ρ FA q r th rm z0 g) (hH : sx_H D zCl (sxRT L) b0 Sg s H) (hV : va_S (fun q => b0 ≤ q) s.heap H locs) (hP : py_P FT D (sxRT L) Sg ρ (K1, FA) q r n th H f v)
    (kk : ∀ (H' : Heap) (locs' : List Loc), sx_H D zCl (sxRT L) b0 Sg s H' → va_S (fun q => b0 ≤ q) s.heap H' locs' → py_P FT D (sxRT L) Sg ρ (K1, FA) q r n th H' f x → W p l e R s m args below meth c H' locs' nc ns Q (F0 m (pc + 3) ls rest)) : W p l e R s m args below meth c H locs nc ns Q (F0 m pc ls (.int x :: .ref th :: rest)) := by
  have hcd := (zHda zD12 (by decide +kernel) args s hF.1.2.2.2.2 hF.2.1.2.1).1
  rw [hown] at hcd
  obtain ⟨cell, h1, h2, h3, hb0, h4⟩ := py_cell hT hH hP
  obtain ⟨⟨t1, t2, t3, t4, t5, t6⟩, hoff, h62, hwd, hft, hrr⟩ := id hT
  have hne := py_ne hT hP
  have hsl : sx_sl D g 62 = D.2 12 62 := by rw [sx_sl0 t3, t4]
  have hap : ∀ x y, x < sx_wd g → y < sx_wd g → x ≠ y → sx_sl D g x ≠ sx_sl D g y := fun x y hx hy hn => sx_apart (args := args) hF.1.2.2.2.2 hF.2.1.1 zclok (zrtok L) _ t2 hx hy hn
  have hgx := Int32.le_toInt x
  have hlx := Int32.toInt_lt x
  refine sx_Wput (q := (483, 12, 62, 0, 0)) (w := .int v) hF.1 hF.2.1.1 zclok (hcd.2.2.1 _ (by decide +kernel)) (Or.inl rfl) h1 h2 h3 h4 (fun ty hj => by
    rcases hj with ⟨-, rfl⟩ | ⟨h, -⟩ | ⟨h, -⟩ | ⟨h, -⟩
    · exact ⟨rfl, rfl⟩
    · exact absurd (show (0 : Nat) = 1 from h) (by decide)
    · exact absurd (show (0 : Nat) = 2 from h) (by decide)
    · exact absurd (show (0 : Nat) = 3 from h) (by decide)) (pv_row (zHme M0 hM0).1 hrow) (fun H' e1 e2 e3 => ?_)
  have e1 : H'[th]? = some (cell.setSlot (sx_sl D g 62) (.int x)) := by rw [hsl]; exact e1
  have hH' := sx_H_set hH t1 t2 h1 hwd hft (v := .int x) (Or.inl ⟨rfl, x, rfl, by simpa using hgx, by show x.toInt ≤ 2147483647; omega⟩) hap e1 e3
  refine kk H' _ hH' (hV.put e2 e3 hb0) ⟨?_, ?_, ?_⟩
  · obtain ⟨g1, g2, g3, g4, g5, g6, g7⟩ := hP.1
    refine ⟨g1, g2, g3, g4, fun y hy => sx_fact_set (g5 y hy) t1 t2 h1 hwd hap e1 e3 (fun hz => h62 y hy hz), fun y hy => ?_, g7⟩
    obtain ⟨a', r', g', cell', m1, m2, m3, m4, m5, m6⟩ := g6 y hy
    have hne' : a' ≠ th := fun he => by
      rw [he, t1] at m2
      cases m2
      rw [t2] at m3
      cases m3
      exact m4 t3
    exact ⟨a', r', g', cell', m1, m2, m3, m4, by rw [e3 a' hne']; exact m5, m6⟩
  · obtain ⟨a1, a2, ca, a3, a4⟩ := hP.2.1
    exact ⟨a1, a2, ca, by rw [e3 q (Ne.symm hne)]; exact a3, a4⟩
  · exact ⟨_, e1, by rw [hsl]; exact Cell.slots_setSlot_self _ (k2_hasslot h4)⟩
/-- a letter is written -/
theorem py_ast {x y : Int32} (hC : sx_Cx p s m args c M0.1.2.1 M0.1.2.2.1 M0.1.1.cls zTB) (hM0 : M0 ∈ zMT.flatten) (hrow : sx_row M0.2.1 pc = some (pc, .iastore, 1)) (hT : py_T (sxRT L) Sg ρ FA q r th rm z0 g) (hH : sx_H D zCl (sxRT L) b0 Sg s H) (hV : va_S (fun q => b0 ≤ q) s.heap H locs) (hP : py_P FT D (sxRT L) Sg ρ (K1, FA) q r n th H f v) (h0 : 0 ≤ y.toInt) (h1 : y.toInt < n)
    (kk : ∀ (H' : Heap) (locs' : List Loc), sx_H D zCl (sxRT L) b0 Sg s H' → va_S (fun q => b0 ≤ q) s.heap H' locs' → py_P FT D (sxRT L) Sg ρ (K1, FA) q r n th H' (zup f y.toInt.toNat x) v → W p l e R s m args below meth c H' locs' nc ns Q (F0 m (pc + 1) ls rest)) : W p l e R s m args below meth c H locs nc ns Q (F0 m pc ls (.int x :: .int y :: .ref q :: rest)) := by
  have hd : decode M0.1.2.1 pc = .ok (.iastore, 1) := pv_row (zHme M0 hM0).1 hrow
  have hoff := hT.2.1
  obtain ⟨cellt, c1, c2⟩ := hP.2.2
  have hne := py_ne hT hP
  have ha := hP.2.1
  have hG := hP.1
  obtain ⟨cell, h3, hk, hb0, hsz, h4⟩ := pa_kind hH ha
  obtain ⟨hx, hb, -, hown, hts⟩ := hC
  have hcl : y.toNatClampNeg = y.toInt.toNat := rfl
  rcases hk with ⟨z, -⟩ | ⟨h2, q3, q4, q5, q6⟩
  · exact absurd z Nat.one_ne_zero
  · obtain ⟨f1, -, -⟩ := sx_idx h0 h1 q5
    refine W.iast hx hb h3 q3 q4 f1 rfl rfl hd (fun H' e1 e2 e3 => ?_)
    have hlt : y.toInt.toNat < n := by omega
    rw [hcl] at e1
    have hap : ∀ x y, x < sx_wd (1, n, 0, [(0, -2147483648, 2147483647)]) → y < sx_wd (1, n, 0, [(0, -2147483648, 2147483647)]) → x ≠ y → sx_sl D (1, n, 0, [(0, -2147483648, 2147483647)]) x ≠ sx_sl D (1, n, 0, [(0, -2147483648, 2147483647)]) y := fun x y _ _ hne => by rw [sx_sl1 Nat.one_ne_zero, sx_sl1 Nat.one_ne_zero]; exact hne
    have hlx := Int32.toInt_lt x
    have hgx := Int32.le_toInt x
    have hH' := sx_H_set hH ha.1 ha.2.1 h3 (k := y.toInt.toNat) (t := (0, -2147483648, 2147483647)) (v := .int x) hlt rfl (Or.inl ⟨rfl, x, rfl, by simpa using hgx, by show x.toInt ≤ 2147483647; omega⟩) hap (by rw [sx_sl1 Nat.one_ne_zero]; exact e1) e3
    refine kk H' _ hH' (hV.put e2 e3 hb0) ⟨pa_G hG hoff ha.1 e3, ⟨ha.1, ha.2.1, _, e1, fun k hk => ?_⟩, ⟨cellt, by rw [e3 th hne]; exact c1, c2⟩⟩
    show _ = some (Value.int (if k = y.toInt.toNat then x else f k))
    by_cases he : k = y.toInt.toNat
    · rw [he, if_pos rfl]
      exact Cell.slots_setSlot_self _ (by omega)
    · rw [if_neg he, slot_ne _ _ (Ne.symm he)]
      exact h4 k hk
end PYA
section PYB
variable {FT : Nat → List Int → Int} {L : Nat} {D : va_G} {b0 : Nat} {l : Launch} {Sg : Nat → Option Nat} {bud : sx_Bu} {ρ : List Value} {K1 : List sx_Ty × List sx_LF × List sx_LF × List (Nat × List sx_LF × Nat)} {FA : sx_FA} {q r n th rm z0 : Nat} {g : sx_Rg} {H : Heap} {f : Nat → Int32} {v : Int32}
set_option maxRecDepth 100000 in
theorem zc_wl {V : Nat} {x : Int32} (hn : n = 20) (hT : py_T (sxRT L) Sg ρ FA q r th rm z0 g) (hP : py_P FT D (sxRT L) Sg ρ (K1, FA) q r n th H f v) (hv : v.toInt = (V : Int)) (hV : V < 20) : pv_CG D zCl (sxRT L) zAO zTB b0 l zM212 bud Sg H [.ref th, .int x] (fun vo H2 => vo = none ∧ ∃ v' : Int32, py_P FT D (sxRT L) Sg ρ (K1, FA) q r n th H2 (zup f V x) v' ∧ v'.toInt = ((V + 1 : Nat) : Int)) := by
  intro p e R s m args below meth cc Q ls hF hh hH hl K
  have hR := zkDe_rows zDe212
  obtain ⟨hx, hb, -, -, -⟩ := id hF.1
  have t1 : (Int32.ofInt 1).toInt = 1 := by decide
  refine pv_W hx hb hR 1 1 [(0, .ref th), (1, .int x)] [.ref th] rfl hl (fun ls hl => ?_)
  refine py_arr (zmt (j := 212) rfl) rfl rfl hF hT hH (by rw [hh]; exact va_S.rf) hP ?_
  refine pv_W hx hb hR 1 5 [(0, .ref th), (1, .int x)] [.ref th, .ref q] rfl hl (fun ls hl => ?_)
  refine py_get (zmt (j := 212) rfl) rfl rfl hF hT hH hP ?_
  refine pv_W hx hb hR 1 9 [(0, .ref th), (1, .int x)] [.int x, .int v, .ref q] rfl hl (fun ls hl => ?_)
  refine py_ast hF.1 (zmt (j := 212) rfl) rfl hT hH (by rw [hh]; exact va_S.rf) hP (by omega) (by omega) (fun H' locs' hH' hV' hP' => ?_)
  have hvn : v.toInt.toNat = V := by omega
  rw [hvn] at hP'
  refine pv_W hx hb hR 2 12 [(0, .ref th), (1, .int x)] [.ref th, .ref th] rfl hl (fun ls hl => ?_)
  refine py_get (zmt (j := 212) rfl) rfl rfl hF hT hH' hP' ?_
  refine pv_W hx hb hR 2 17 [(0, .ref th), (1, .int x)] [.int (v + Int32.ofInt 1), .ref th] rfl hl (fun ls hl => ?_)
  refine py_put (zmt (j := 212) rfl) rfl rfl hF hT hH' hV' hP' (fun H2 locs2 hH2 hV2 hP2 => ?_)
  exact K none H2 locs2 .return_ 20 ls hH2 hV2 ⟨rfl, _, hP2, by rw [Jvm.Kit.i32_add (by omega) (by omega), t1, hv]; omega⟩ (Or.inr (Or.inr (Or.inr ⟨rfl, rfl, rfl⟩))) (pv_row hR rfl)
end PYB
