/-! YEAR: the reference's digits, years, and its answer -/
section PYC
variable {FT : Nat → List Int → Int} {L : Nat} {D : va_G} {b0 : Nat} {l : Launch} {Sg : Nat → Option Nat} {bud : sx_Bu} {nc ns : Nat} {p : Program} {e : Env} {R : Room} {s : State} {m : MethodId} {args : Array Value} {below : List Frame} {meth : Method} {c : Code} {Q : State → Prop} {ρ : List Value} {K1 : List sx_Ty × List sx_LF × List sx_LF × List (Nat × List sx_LF × Nat)} {FA : sx_FA} {q r n th rm z0 : Nat} {g : sx_Rg} {H : Heap} {locs : List Loc} {f : Nat → Int32} {v : Int32} {M0 : sx_Me} {pc : Nat} {ls : Array Slot} {rest : List Value}
/-- a letter is written, from a method of the reference -/
theorem py_wl {V : Nat} {x : Int32} (hM0 : M0 ∈ zMT.flatten) (hown : zD12.1 = M0.1.1.cls) (hrow : sx_row M0.2.1 pc = some (pc, .invokevirtual 486, 3)) (hF : sx_Frm D zCl zAO zTB b0 M0 bud p R s m args meth c) (hls : ls.size = M0.1.2.2.1) (hrest : (rest.map fun v => v.category).sum ≤ 8) (hb1 : 1 ≤ bud.1) (hb2 : 21 ≤ bud.2.1) (hnc : nc ≤ bud.2.2.1) (hns : ns ≤ bud.2.2.2) (hn : n = 20) (hT : py_T (sxRT L) Sg ρ FA q r th rm z0 g) (hH : sx_H D zCl (sxRT L) b0 Sg s H) (hV : va_S (fun q => b0 ≤ q) s.heap H locs) (hP : py_P FT D (sxRT L) Sg ρ (K1, FA) q r n th H f v) (hv : v.toInt = (V : Int)) (hVb : V < 20)
    (kk : ∀ (H' : Heap) (locs' : List Loc) (v' : Int32), sx_H D zCl (sxRT L) b0 Sg s H' → va_S (fun q => b0 ≤ q) s.heap H' locs' → py_P FT D (sxRT L) Sg ρ (K1, FA) q r n th H' (zup f V x) v' → v'.toInt = ((V + 1 : Nat) : Int) → W p l e R s m args below meth c H' locs' nc ns Q (F0 m (pc + 3) ls rest)) : W p l e R s m args below meth c H locs nc ns Q (F0 m pc ls (.int x :: .ref th :: rest)) := by
  refine zcall0 (L := L) (M := zM212) (vs := [.ref th, .int x]) (rest := rest) zD12 (486, 0, 212, 1) (by decide +kernel) hown (by decide +kernel) rfl hM0 hrow hF rfl (Nat.le_of_ble_eq_true rfl) hrest hb1 hb2 (fun h => by cases h) rfl rfl hnc hns (zrecv (cq := (zR12, zT12, 73)) hF.2.1 hH hT.1.1 hT.1.2.1 hT.1.2.2.1 (by rw [hT.1.2.2.2.1]; rfl) rfl) hH hV hls (zc_wl hn hT hP hv hVb) (fun vo H2 locs2 k1 k2 k3 => ?_)
  obtain ⟨rfl, v', k4, k5⟩ := k3
  exact kk H2 locs2 v' k1 k2 k4 k5
set_option maxRecDepth 100000 in
/-- a digit's ones -/
theorem zl_wd {o d : Int32} (hF : sx_Frm D zCl zAO zTB b0 zM211 bud p R s m args meth c) (hb1 : 1 ≤ bud.1) (hb2 : 21 ≤ bud.2.1) (hnc : nc ≤ bud.2.2.1) (hns : ns ≤ bud.2.2.2) (hn : n = 20) (hT : py_T (sxRT L) Sg ρ FA q r th rm z0 g) {fE : Nat → Int32} {VE : Nat}
    (K : ∀ (H' : Heap) (locs' : List Loc) (v' : Int32) (ls' : Array Slot), sx_H D zCl (sxRT L) b0 Sg s H' → va_S (fun q => b0 ≤ q) s.heap H' locs' → py_P FT D (sxRT L) Sg ρ (K1, FA) q r n th H' fE v' → v'.toInt = (VE : Int) → W p l e R s m args below meth c H' locs' nc ns Q (F0 m 67 ls' [])) :
    ∀ (k V : Nat) {kk v : Int32} {H : Heap} {locs : List Loc} {f : Nat → Int32} {ls : Array Slot}, V + k ≤ 20 → zwr f V (List.replicate k o) = fE → V + k = VE → kk.toInt = (k : Int) → v.toInt = (V : Int) → sx_H D zCl (sxRT L) b0 Sg s H → va_S (fun q => b0 ≤ q) s.heap H locs → py_P FT D (sxRT L) Sg ρ (K1, FA) q r n th H f v →
      lv_has ls 4 [(0, .ref th), (1, .int d), (2, .int o), (3, .int kk)] → W p l e R s m args below meth c H locs nc ns Q (F0 m 52 ls []) := by
  have hR := zkDe_rows zDe211
  have hC := hF.1
  obtain ⟨hx, hb, -, -, -⟩ := id hC
  have tm : (Int32.ofInt (-1)).toInt = -1 := by decide
  intro k
  induction k with
  | zero =>
    intro V kk v H locs f ls hV20 hf hVE hk hv hH hV hP hl
    refine pv_W hx hb hR 1 53 [(0, .ref th), (1, .int d), (2, .int o), (3, .int kk)] [.int kk] rfl hl (fun ls hl => ?_)
    refine pv_if hC hR .le 14 67 rfl rfl (fun _ => ?_) (fun h => ?_)
    · have hf : f = fE := hf
      rw [hf] at hP
      exact K H locs v ls hH hV hP (by rw [hv]; congr 1)
    · have h : 0 < kk.toInt := h
      omega
  | succ k ih =>
    intro V kk v H locs f ls hV20 hf hVE hk hv hH hV hP hl
    refine pv_W hx hb hR 1 53 [(0, .ref th), (1, .int d), (2, .int o), (3, .int kk)] [.int kk] rfl hl (fun ls hl => ?_)
    refine pv_if hC hR .le 14 67 rfl rfl (fun h => ?_) (fun _ => ?_)
    · have h : kk.toInt ≤ 0 := h
      omega
    refine pv_W hx hb hR 2 58 [(0, .ref th), (1, .int d), (2, .int o), (3, .int kk)] [.int o, .ref th] rfl hl (fun ls hl => ?_)
    refine py_wl (V := V) (zmt (j := 211) rfl) rfl rfl hF hl.1 (Nat.le_of_ble_eq_true rfl) hb1 hb2 hnc hns hn hT hH hV hP hv (by omega) (fun H' locs' v' hH' hV' hP' hv' => ?_)
    refine pv_W hx hb hR 2 52 [(3, .int (kk + Int32.ofInt (-1))), (0, .ref th), (1, .int d), (2, .int o)] [] rfl hl (fun ls hl => ?_)
    exact ih (V + 1) (by omega) hf (by omega) (by rw [Jvm.Kit.i32_add (by omega) (by omega), tm, hk]; omega) hv' hH' hV' hP' (lv_sub hl [1, 2, 3, 0] rfl)
set_option maxRecDepth 100000 in
theorem zc_wd {V Dd : Nat} {d o : Int32} (hb1 : 1 ≤ bud.1) (hb2 : 21 ≤ bud.2.1) (hn : n = 20) (hT : py_T (sxRT L) Sg ρ FA q r th rm z0 g) (hP : py_P FT D (sxRT L) Sg ρ (K1, FA) q r n th H f v) (hv : v.toInt = (V : Int)) (hVb : V ≤ 16) (hd : d.toInt = (Dd : Int)) (hD : Dd ≤ 9) :
    pv_CG D zCl (sxRT L) zAO zTB b0 l zM211 bud Sg H [.ref th, .int d, .int o] (fun vo H2 => vo = none ∧ ∃ v' : Int32, py_P FT D (sxRT L) Sg ρ (K1, FA) q r n th H2 (zwr f V (zwd Dd o)) v' ∧ v'.toInt = ((V + (zwd Dd o).length : Nat) : Int)) := by
  intro p e R s m args below meth cc Q ls hF hh hH hl K
  have hR := zkDe_rows zDe211
  have hC := hF.1
  obtain ⟨hx, hb, -, -, -⟩ := id hC
  have t9 : (b8 9).toInt = 9 := by decide
  have t4 : (Int32.ofInt 4).toInt = 4 := by decide
  have t5 : (Int32.ofInt 5).toInt = 5 := by decide
  have hV0 : va_S (fun q => b0 ≤ q) s.heap H [] := by rw [hh]; exact va_S.rf
  -- the last call of two, and the end
  have two : ∀ (x : Int32) (H' : Heap) (locs' : List Loc) (v' : Int32) (ls : Array Slot), sx_H D zCl (sxRT L) b0 Sg s H' → va_S (fun q => b0 ≤ q) s.heap H' locs' → py_P FT D (sxRT L) Sg ρ (K1, FA) q r n th H' (zup f V o) v' → v'.toInt = ((V + 1 : Nat) : Int) → zwd Dd o = [o, x] → ls.size = 4 → W p l e R s m args below meth cc H' locs' 0 0 Q (F0 m 32 ls [.int x, .ref th]) := fun x H' locs' v' ls hH' hV' hP' hv' hw hls => by
    refine py_wl (V := V + 1) (zmt (j := 211) rfl) rfl rfl hF hls (Nat.le_of_ble_eq_true rfl) hb1 hb2 (Nat.zero_le _) (Nat.zero_le _) hn hT hH' hV' hP' hv' (by omega) (fun H2 locs2 v2 hH2 hV2 hP2 hv2 => ?_)
    exact K none H2 locs2 .return_ 35 ls hH2 hV2 ⟨rfl, v2, by rw [hw]; exact hP2, by rw [hw, hv2]; rfl⟩ (Or.inr (Or.inr (Or.inr ⟨rfl, rfl, rfl⟩))) (pv_row hR rfl)
  have A : ∀ (ls : Array Slot), lv_has ls 4 [(0, .ref th), (1, .int d), (2, .int o)] → Dd = 9 ∨ Dd = 4 → W p l e R s m args below meth cc H [] 0 0 Q (F0 m 11 ls []) := fun ls hl h94 => by
    refine pv_W hx hb hR 2 13 [(0, .ref th), (1, .int d), (2, .int o)] [.int o, .ref th] rfl hl (fun ls hl => ?_)
    refine py_wl (V := V) (zmt (j := 211) rfl) rfl rfl hF hl.1 (Nat.le_of_ble_eq_true rfl) hb1 hb2 (Nat.zero_le _) (Nat.zero_le _) hn hT hH hV0 hP hv (by omega) (fun H' locs' v' hH' hV' hP' hv' => ?_)
    refine pv_W hx hb hR 3 20 [(0, .ref th), (1, .int d), (2, .int o)] [.int (b8 9), .int d, .ref th] rfl hl (fun ls hl => ?_)
    refine pv_icmp hC hR .ne 9 29 rfl rfl (fun h => ?_) (fun h => ?_)
    · have h : d.toInt ≠ (b8 9).toInt := h
      refine pv_W hx hb hR 3 32 [(0, .ref th), (1, .int d), (2, .int o)] [.int (o + Int32.ofInt 1), .ref th] rfl hl (fun ls hl => ?_)
      exact two _ H' locs' v' ls hH' hV' hP' hv' (by unfold zwd; rw [if_neg (by omega), if_pos (by omega)]) hl.1
    · have h : d.toInt = (b8 9).toInt := h
      refine pv_W hx hb hR 4 32 [(0, .ref th), (1, .int d), (2, .int o)] [.int (o + Int32.ofInt 2), .ref th] rfl hl (fun ls hl => ?_)
      exact two _ H' locs' v' ls hH' hV' hP' hv' (by unfold zwd; rw [if_pos (by omega)]) hl.1
  have B : ∀ (pre : List Int32) (H' : Heap) (locs' : List Loc) (v' : Int32) (ls : Array Slot), sx_H D zCl (sxRT L) b0 Sg s H' → va_S (fun q => b0 ≤ q) s.heap H' locs' → py_P FT D (sxRT L) Sg ρ (K1, FA) q r n th H' (zwr f V pre) v' → v'.toInt = ((V + pre.length : Nat) : Int) → zwd Dd o = pre ++ List.replicate (Dd % 5) o → pre.length ≤ 1 → lv_has ls 4 [(0, .ref th), (1, .int d), (2, .int o)] → (pre.length = 0 ∨ (5 ≤ Dd ∧ Dd ≤ 8)) → W p l e R s m args below meth cc H' locs' 0 0 Q (F0 m 48 ls []) := fun pre H' locs' v' ls hH' hV' hP' hv' hw hp1 hl hp8 => by
    have hrem : (d - d / Int32.ofInt 5 * Int32.ofInt 5).toInt = ((Dd % 5 : Nat) : Int) := by rw [rem_toInt, t5, hd, Int.tmod_eq_emod_of_nonneg (by omega)]; rfl
    refine pv_W hx hb hR 4 52 [(3, .int (d - d / Int32.ofInt 5 * Int32.ofInt 5)), (0, .ref th), (1, .int d), (2, .int o)] [] rfl hl (fun ls hl => ?_)
    refine zl_wd (fE := zwr f V (zwd Dd o)) (VE := V + (zwd Dd o).length) hF hb1 hb2 (Nat.zero_le _) (Nat.zero_le _) hn hT (fun H2 locs2 v2 ls2 hH2 hV2 hP2 hv2 => ?_) (Dd % 5) (V + pre.length) (by omega) (by rw [hw, zwr_app]) (by rw [hw, List.length_append, List.length_replicate]; omega) hrem hv' hH' hV' hP' (lv_sub hl [1, 2, 3, 0] rfl)
    exact K none H2 locs2 .return_ 67 ls2 hH2 hV2 ⟨rfl, v2, hP2, hv2⟩ (Or.inr (Or.inr (Or.inr ⟨rfl, rfl, rfl⟩))) (pv_row hR rfl)
  refine pv_W hx hb hR 2 3 [(0, .ref th), (1, .int d), (2, .int o)] [.int (b8 9), .int d] rfl hl (fun ls hl => ?_)
  refine pv_icmp hC hR .eq 8 11 rfl rfl (fun h => ?_) (fun h => ?_)
  · have h : d.toInt = (b8 9).toInt := h
    exact A ls hl (Or.inl (by omega))
  have h9 : d.toInt ≠ (b8 9).toInt := h
  refine pv_W hx hb hR 2 8 [(0, .ref th), (1, .int d), (2, .int o)] [.int (Int32.ofInt 4), .int d] rfl hl (fun ls hl => ?_)
  refine pv_icmp hC hR .ne 28 36 rfl rfl (fun h => ?_) (fun h => ?_)
  · have h4 : d.toInt ≠ (Int32.ofInt 4).toInt := h
    refine pv_W hx hb hR 2 38 [(0, .ref th), (1, .int d), (2, .int o)] [.int (Int32.ofInt 4), .int d] rfl hl (fun ls hl => ?_)
    refine pv_icmp hC hR .le 10 48 rfl rfl (fun h => ?_) (fun h => ?_)
    · have h : d.toInt ≤ (Int32.ofInt 4).toInt := h
      exact B [] H [] v ls hH hV0 hP hv (by unfold zwd; rw [if_neg (by omega), if_neg (by omega), if_neg (by omega)]) (by decide) hl (Or.inl rfl)
    · have h : (Int32.ofInt 4).toInt < d.toInt := h
      refine pv_W hx hb hR 4 45 [(0, .ref th), (1, .int d), (2, .int o)] [.int (o + Int32.ofInt 1), .ref th] rfl hl (fun ls hl => ?_)
      refine py_wl (V := V) (zmt (j := 211) rfl) rfl rfl hF hl.1 (Nat.le_of_ble_eq_true rfl) hb1 hb2 (Nat.zero_le _) (Nat.zero_le _) hn hT hH hV0 hP hv (by omega) (fun H' locs' v' hH' hV' hP' hv' => ?_)
      exact B [o + Int32.ofInt 1] H' locs' v' ls hH' hV' hP' hv' (by unfold zwd; rw [if_neg (by omega), if_neg (by omega), if_pos (by omega)]) (Nat.le_refl _) hl (Or.inr ⟨by omega, by omega⟩)
  · have h : d.toInt = (Int32.ofInt 4).toInt := h
    exact A ls hl (Or.inr (by omega))
/-- a digit is written, from writesYear -/
theorem py_wd {V Dd : Nat} {d o : Int32} (hrow : sx_row zM210.2.1 pc = some (pc, .invokevirtual 489, 3)) (hF : sx_Frm D zCl zAO zTB b0 zM210 bud p R s m args meth c) (hls : ls.size = 2) (hb1 : 2 ≤ bud.1) (hb2 : 44 ≤ bud.2.1) (hnc : nc ≤ bud.2.2.1) (hns : ns ≤ bud.2.2.2) (hn : n = 20) (hT : py_T (sxRT L) Sg ρ FA q r th rm z0 g) (hH : sx_H D zCl (sxRT L) b0 Sg s H) (hV : va_S (fun q => b0 ≤ q) s.heap H locs) (hP : py_P FT D (sxRT L) Sg ρ (K1, FA) q r n th H f v) (hv : v.toInt = (V : Int)) (hVb : V ≤ 16) (hd : d.toInt = (Dd : Int)) (hD : Dd ≤ 9)
    (kk : ∀ (H' : Heap) (locs' : List Loc) (v' : Int32), sx_H D zCl (sxRT L) b0 Sg s H' → va_S (fun q => b0 ≤ q) s.heap H' locs' → py_P FT D (sxRT L) Sg ρ (K1, FA) q r n th H' (zwr f V (zwd Dd o)) v' → v'.toInt = ((V + (zwd Dd o).length : Nat) : Int) → W p l e R s m args below meth c H' locs' nc ns Q (F0 m (pc + 3) ls [])) : W p l e R s m args below meth c H locs nc ns Q (F0 m pc ls [.int o, .int d, .ref th]) := by
  refine zcall0 (L := L) (M := zM211) (vs := [.ref th, .int d, .int o]) (rest := []) zD12 (489, 0, 211, 2) (by decide +kernel) rfl (by decide +kernel) rfl (zmt (j := 210) rfl) hrow hF rfl (Nat.le_of_ble_eq_true rfl) (Nat.le_of_ble_eq_true rfl) (by omega) (by show 19 + 4 ≤ _; omega) (fun h => by cases h) rfl rfl hnc hns (zrecv (cq := (zR12, zT12, 73)) hF.2.1 hH hT.1.1 hT.1.2.1 hT.1.2.2.1 (by rw [hT.1.2.2.2.1]; rfl) rfl) hH hV hls (zc_wd (by show 1 ≤ bud.1 - 1; omega) (by show 21 ≤ bud.2.1 - (19 + 4); omega) hn hT hP hv hVb hd hD) (fun vo H2 locs2 k1 k2 k3 => ?_)
  obtain ⟨rfl, v', k4, k5⟩ := k3
  exact kk H2 locs2 v' k1 k2 k4 k5
set_option maxRecDepth 100000 in
theorem zc_wy {Y : Nat} {y : Int32} (hb1 : 2 ≤ bud.1) (hb2 : 44 ≤ bud.2.1) (hn : n = 20) (hT : py_T (sxRT L) Sg ρ FA q r th rm z0 g) (hP : py_P FT D (sxRT L) Sg ρ (K1, FA) q r n th H f v) (hy : y.toInt = (Y : Int)) (hY : Y ≤ 3999) :
    pv_CG D zCl (sxRT L) zAO zTB b0 l zM210 bud Sg H [.ref th, .int y] (fun vo H2 => vo = none ∧ ∃ v' : Int32, py_P FT D (sxRT L) Sg ρ (K1, FA) q r n th H2 (zwr f 0 (zyw Y)) v' ∧ v'.toInt = ((zyw Y).length : Int)) := by
  intro p e R s m args below meth cc Q ls hF hh hH hl K
  have hR := zkDe_rows zDe210
  have hC := hF.1
  obtain ⟨hx, hb, -, -, -⟩ := id hC
  have t0 : (Int32.ofInt 0).toInt = ((0 : Nat) : Int) := by decide
  have t10 : (b8 10).toInt = 10 := by decide
  have t100 : (b8 100).toInt = 100 := by decide
  have t1000 : (Int16.ofInt 1000).toInt32.toInt = 1000 := by decide
  have d1 : (y / (Int16.ofInt 1000).toInt32).toInt = ((Y / 1000 : Nat) : Int) := by rw [sx_div32 (by rw [t1000]; decide), t1000, hy, Int.tdiv_eq_ediv_of_nonneg (by omega)]; rfl
  have e2 : (y / b8 100).toInt = ((Y / 100 : Nat) : Int) := by rw [sx_div32 (by rw [t100]; decide), t100, hy, Int.tdiv_eq_ediv_of_nonneg (by omega)]; rfl
  have d2 : (y / b8 100 - y / b8 100 / b8 10 * b8 10).toInt = ((Y / 100 % 10 : Nat) : Int) := by rw [rem_toInt, t10, e2, Int.tmod_eq_emod_of_nonneg (by omega)]; rfl
  have e3 : (y / b8 10).toInt = ((Y / 10 : Nat) : Int) := by rw [sx_div32 (by rw [t10]; decide), t10, hy, Int.tdiv_eq_ediv_of_nonneg (by omega)]; rfl
  have d3 : (y / b8 10 - y / b8 10 / b8 10 * b8 10).toInt = ((Y / 10 % 10 : Nat) : Int) := by rw [rem_toInt, t10, e3, Int.tmod_eq_emod_of_nonneg (by omega)]; rfl
  have d4 : (y - y / b8 10 * b8 10).toInt = ((Y % 10 : Nat) : Int) := by rw [rem_toInt, t10, hy, Int.tmod_eq_emod_of_nonneg (by omega)]; rfl
  have l1 := zwd_len (d := Y / 1000) (b8 6) (by omega)
  have l2 := zwd_len (d := Y / 100 % 10) (Int32.ofInt 4) (by omega)
  have l3 := zwd_len (d := Y / 10 % 10) (Int32.ofInt 2) (by omega)
  refine pv_W hx hb hR 2 2 [(0, .ref th), (1, .int y)] [.int (Int32.ofInt 0), .ref th] rfl hl (fun ls hl => ?_)
  refine py_put (zmt (j := 210) rfl) rfl rfl hF hT hH (by rw [hh]; exact va_S.rf) hP (fun H1 locs1 hH1 hV1 hP1 => ?_)
  refine pv_W hx hb hR 5 13 [(0, .ref th), (1, .int y)] [.int (b8 6), .int (y / (Int16.ofInt 1000).toInt32), .ref th] rfl hl (fun ls hl => ?_)
  refine py_wd (V := 0) rfl hF hl.1 hb1 hb2 (Nat.zero_le _) (Nat.zero_le _) hn hT hH1 hV1 hP1 t0 (by omega) d1 (by omega) (fun H2 locs2 v2 hH2 hV2 hP2 hv2 => ?_)
  refine pv_W hx hb hR 7 25 [(0, .ref th), (1, .int y)] [.int (Int32.ofInt 4), .int (y / b8 100 - y / b8 100 / b8 10 * b8 10), .ref th] rfl hl (fun ls hl => ?_)
  refine py_wd rfl hF hl.1 hb1 hb2 (Nat.zero_le _) (Nat.zero_le _) hn hT hH2 hV2 hP2 hv2 (by omega) d2 (by omega) (fun H3 locs3 v3 hH3 hV3 hP3 hv3 => ?_)
  refine pv_W hx hb hR 7 37 [(0, .ref th), (1, .int y)] [.int (Int32.ofInt 2), .int (y / b8 10 - y / b8 10 / b8 10 * b8 10), .ref th] rfl hl (fun ls hl => ?_)
  refine py_wd rfl hF hl.1 hb1 hb2 (Nat.zero_le _) (Nat.zero_le _) hn hT hH3 hV3 hP3 hv3 (by omega) d3 (by omega) (fun H4 locs4 v4 hH4 hV4 hP4 hv4 => ?_)
  refine pv_W hx hb hR 5 46 [(0, .ref th), (1, .int y)] [.int (Int32.ofInt 0), .int (y - y / b8 10 * b8 10), .ref th] rfl hl (fun ls hl => ?_)
  refine py_wd rfl hF hl.1 hb1 hb2 (Nat.zero_le _) (Nat.zero_le _) hn hT hH4 hV4 hP4 hv4 (by omega) d4 (by omega) (fun H5 locs5 v5 hH5 hV5 hP5 hv5 => ?_)
  refine K none H5 locs5 .return_ 49 ls hH5 hV5 ⟨rfl, v5, ?_, ?_⟩ (Or.inr (Or.inr (Or.inr ⟨rfl, rfl, rfl⟩))) (pv_row hR rfl)
  · have : zwr f 0 (zyw Y) = zwr (zwr (zwr (zwr f 0 (zwd (Y / 1000) (b8 6))) (0 + (zwd (Y / 1000) (b8 6)).length) (zwd (Y / 100 % 10) (Int32.ofInt 4))) (0 + (zwd (Y / 1000) (b8 6)).length + (zwd (Y / 100 % 10) (Int32.ofInt 4)).length) (zwd (Y / 10 % 10) (Int32.ofInt 2))) (0 + (zwd (Y / 1000) (b8 6)).length + (zwd (Y / 100 % 10) (Int32.ofInt 4)).length + (zwd (Y / 10 % 10) (Int32.ofInt 2)).length) (zwd (Y % 10) (Int32.ofInt 0)) := by
      unfold zyw
      rw [zwr_app, zwr_app, zwr_app]
    rw [this]
    exact hP5
  · rw [hv5]
    unfold zyw
    rw [List.length_append, List.length_append, List.length_append]
    congr 1; omega
set_option maxRecDepth 100000 in
theorem zc_isin {a b cc : Int32} : pv_CG D zCl (sxRT L) zAO zTB b0 l zM129 bud Sg H [.ref th, .int a, .int b, .int cc] (fun vo H2 => H2 = H ∧ vo = some (.int (if b.toInt ≤ a.toInt ∧ a.toInt ≤ cc.toInt then 1 else 0))) := by
  intro p e R s m args below meth c Q ls hF hh hH hl K
  have hR := zkDe_rows zDe129
  obtain ⟨hx, hb, -, -, -⟩ := id hF.1
  have fin : ∀ (x : Int32) (ls' : Array Slot), x = (if b.toInt ≤ a.toInt ∧ a.toInt ≤ cc.toInt then 1 else 0) → W p l e R s m args below meth c H [] 0 0 Q (F0 m 15 ls' [.int x]) := fun x ls' hx1 => by
    refine K (some (.int x)) H [] .ireturn 15 ls' hH (by rw [hh]; exact va_S.rf) ⟨rfl, by rw [hx1]⟩ (Or.inr (Or.inl ⟨rfl, rfl, ?_⟩)) (pv_row hR rfl)
    rw [hx1]
    by_cases hc : b.toInt ≤ a.toInt ∧ a.toInt ≤ cc.toInt
    · rw [if_pos hc]; exact Or.inr rfl
    · rw [if_neg hc]; exact Or.inl rfl
  refine pv_W hx hb hR 2 2 [(0, .ref th), (1, .int a), (2, .int b), (3, .int cc)] [.int b, .int a] rfl hl (fun ls hl => ?_)
  refine pv_icmp hF.1 hR .lt 12 14 rfl rfl (fun h => ?_) (fun h => ?_)
  · have h : a.toInt < b.toInt := h
    refine pv_W hx hb hR 1 15 [(0, .ref th), (1, .int a), (2, .int b), (3, .int cc)] [.int (Int32.ofInt 0)] rfl hl (fun ls hl => fin _ _ ?_)
    rw [if_neg (by omega)]; rfl
  · have h : b.toInt ≤ a.toInt := h
    refine pv_W hx hb hR 2 7 [(0, .ref th), (1, .int a), (2, .int b), (3, .int cc)] [.int cc, .int a] rfl hl (fun ls hl => ?_)
    refine pv_icmp hF.1 hR .gt 7 14 rfl rfl (fun h2 => ?_) (fun h2 => ?_)
    · have h2 : cc.toInt < a.toInt := h2
      refine pv_W hx hb hR 1 15 [(0, .ref th), (1, .int a), (2, .int b), (3, .int cc)] [.int (Int32.ofInt 0)] rfl hl (fun ls hl => fin _ _ ?_)
      rw [if_neg (by omega)]; rfl
    · have h2 : a.toInt ≤ cc.toInt := h2
      refine pv_W hx hb hR 2 15 [(0, .ref th), (1, .int a), (2, .int b), (3, .int cc)] [.int (Int32.ofInt 1)] rfl hl (fun ls hl => fin _ _ ?_)
      rw [if_pos ⟨h, h2⟩]; rfl
/-- a year is written, from year -/
theorem py_wy {Y : Nat} {y : Int32} (hrow : sx_row zM192.2.1 pc = some (pc, .invokevirtual 492, 3)) (hF : sx_Frm D zCl zAO zTB b0 zM192 bud p R s m args meth c) (hls : ls.size = 5) (hb1 : 3 ≤ bud.1) (hb2 : 65 ≤ bud.2.1) (hnc : nc ≤ bud.2.2.1) (hns : ns ≤ bud.2.2.2) (hn : n = 20) (hT : py_T (sxRT L) Sg ρ FA q r th rm z0 g) (hH : sx_H D zCl (sxRT L) b0 Sg s H) (hV : va_S (fun q => b0 ≤ q) s.heap H locs) (hP : py_P FT D (sxRT L) Sg ρ (K1, FA) q r n th H f v) (hy : y.toInt = (Y : Int)) (hY : Y ≤ 3999)
    (kk : ∀ (H' : Heap) (locs' : List Loc) (v' : Int32), sx_H D zCl (sxRT L) b0 Sg s H' → va_S (fun q => b0 ≤ q) s.heap H' locs' → py_P FT D (sxRT L) Sg ρ (K1, FA) q r n th H' (zwr f 0 (zyw Y)) v' → v'.toInt = ((zyw Y).length : Int) → W p l e R s m args below meth c H' locs' nc ns Q (F0 m (pc + 3) ls [])) : W p l e R s m args below meth c H locs nc ns Q (F0 m pc ls [.int y, .ref th]) := by
  refine zcall0 (L := L) (M := zM210) (vs := [.ref th, .int y]) (rest := []) zD12 (492, 0, 210, 1) (by decide +kernel) rfl (by decide +kernel) rfl (zmt (j := 192) rfl) hrow hF rfl (Nat.le_of_ble_eq_true rfl) (Nat.le_of_ble_eq_true rfl) (by omega) (by show 19 + 2 ≤ _; omega) (fun h => by cases h) rfl rfl hnc hns (zrecv (cq := (zR12, zT12, 73)) hF.2.1 hH hT.1.1 hT.1.2.1 hT.1.2.2.1 (by rw [hT.1.2.2.2.1]; rfl) rfl) hH hV hls (zc_wy (by show 2 ≤ bud.1 - 1; omega) (by show 44 ≤ bud.2.1 - (19 + 2); omega) hn hT hP hy hY) (fun vo H2 locs2 k1 k2 k3 => ?_)
  obtain ⟨rfl, v', k4, k5⟩ := k3
  exact kk H2 locs2 v' k1 k2 k4 k5
set_option maxRecDepth 100000 in
theorem zw_myears {Nn : Nat} {y w : Int32} (hF : sx_Frm D zCl zAO zTB b0 zM192 bud p R s m args meth c) (hb1 : 3 ≤ bud.1) (hb2 : 65 ≤ bud.2.1) (hnc : nc ≤ bud.2.2.1) (hns : ns ≤ bud.2.2.2) (hn : n = 20) (hT : py_T (sxRT L) Sg ρ FA q r th rm z0 g) (hy : y.toInt = (Nn : Int)) (hN : Nn ≤ 3999) (hw : 0 ≤ w.toInt)
    (K : ∀ (a : Int32) (H' : Heap) (locs' : List Loc) (f' : Nat → Int32) (v' : Int32) (ls' : Array Slot), sx_H D zCl (sxRT L) b0 Sg s H' → va_S (fun q => b0 ≤ q) s.heap H' locs' → py_P FT D (sxRT L) Sg ρ (K1, FA) q r n th H' f' v' → a.toInt = (zyc (w.toInt - 100) Nn : Int) → lv_has ls' 5 [] → W p l e R s m args below meth c H' locs' nc ns Q (F0 m 70 ls' [.int a])) :
    ∀ (d k : Nat) {a i : Int32} {H : Heap} {locs : List Loc} {f : Nat → Int32} {v : Int32} {ls : Array Slot}, k + d = Nn → sx_H D zCl (sxRT L) b0 Sg s H → va_S (fun q => b0 ≤ q) s.heap H locs → py_P FT D (sxRT L) Sg ρ (K1, FA) q r n th H f v → i.toInt = ((k + 1 : Nat) : Int) → a.toInt = (zyc (w.toInt - 100) k : Int) → lv_has ls 5 [(0, .ref th), (1, .int y), (2, .int w), (3, .int a), (4, .int i)] → W p l e R s m args below meth c H locs nc ns Q (F0 m 36 ls []) := by
  have hR := zkDe_rows zDe192
  have hC := hF.1
  obtain ⟨hx, hb, -, -, -⟩ := id hC
  have t1 : (Int32.ofInt 1).toInt = 1 := by decide
  have t100 : (b8 100).toInt = 100 := by decide
  have hw1 : (w - b8 100).toInt = w.toInt - 100 := by rw [Jvm.Kit.i32_sub (by omega) (by have := Int32.toInt_lt w; omega), t100]
  intro d
  induction d with
  | zero =>
    intro k a i H locs f v ls hk hH hV hP hi ha hl
    refine pv_W hx hb hR 2 39 [(0, .ref th), (1, .int y), (2, .int w), (3, .int a), (4, .int i)] [.int y, .int i] rfl hl (fun ls hl => ?_)
    refine pv_icmp hC hR .gt 30 69 rfl rfl (fun _ => ?_) (fun h => ?_)
    · refine pv_W hx hb hR 1 70 [(0, .ref th), (1, .int y), (2, .int w), (3, .int a), (4, .int i)] [.int a] rfl hl (fun ls hl => ?_)
      exact K a H locs f v ls hH hV hP (by rw [ha]; congr 2) (lv_sub hl [] rfl)
    · have h : i.toInt ≤ y.toInt := h
      omega
  | succ d ih =>
    intro k a i H locs f v ls hk hH hV hP hi ha hl
    have hab := zyc_le (w.toInt - 100) k
    refine pv_W hx hb hR 2 39 [(0, .ref th), (1, .int y), (2, .int w), (3, .int a), (4, .int i)] [.int y, .int i] rfl hl (fun ls hl => ?_)
    refine pv_icmp hC hR .gt 30 69 rfl rfl (fun h => ?_) (fun _ => ?_)
    · have h : y.toInt < i.toInt := h
      omega
    refine pv_W hx hb hR 2 45 [(0, .ref th), (1, .int y), (2, .int w), (3, .int a), (4, .int i)] [.int i, .ref th] rfl hl (fun ls hl => ?_)
    refine py_wy (Y := k + 1) rfl hF hl.1 hb1 hb2 hnc hns hn hT hH hV hP hi (by omega) (fun H' locs' v' hH' hV' hP' hv' => ?_)
    obtain ⟨-, y2, y3⟩ := zyw_ok (show k + 1 ≤ 3999 by omega)
    rw [y2] at hv'
    refine pv_W hx hb hR 1 49 [(0, .ref th), (1, .int y), (2, .int w), (3, .int a), (4, .int i)] [.ref th] rfl hl (fun ls hl => ?_)
    refine py_get (zmt (j := 192) rfl) rfl rfl hF hT hH' hP' ?_
    have e1 : (i + Int32.ofInt 1).toInt = ((k + 1 + 1 : Nat) : Int) := by rw [Jvm.Kit.i32_add (by omega) (by omega), t1, hi]; omega
    refine pv_W hx hb hR 3 56 [(0, .ref th), (1, .int y), (2, .int w), (3, .int a), (4, .int i)] [.int (w - b8 100), .int v'] rfl hl (fun ls hl => ?_)
    refine pv_icmp hC hR .ne 7 63 rfl rfl (fun h => ?_) (fun h => ?_)
    · have h : v'.toInt ≠ (w - b8 100).toInt := h
      refine pv_W hx hb hR 2 36 [(4, .int (i + Int32.ofInt 1)), (0, .ref th), (1, .int y), (2, .int w), (3, .int a)] [] rfl hl (fun ls hl => ?_)
      refine ih (k + 1) (by omega) hH' hV' hP' e1 ?_ (lv_sub hl [1, 2, 3, 4, 0] rfl)
      rw [ha, zyc, if_neg (by omega)]; omega
    · have h : v'.toInt = (w - b8 100).toInt := h
      refine pv_W hx hb hR 6 36 [(4, .int (i + Int32.ofInt 1)), (3, .int (a + Int32.ofInt 1)), (0, .ref th), (1, .int y), (2, .int w)] [] rfl hl (fun ls hl => ?_)
      refine ih (k + 1) (by omega) hH' hV' hP' e1 ?_ (lv_sub hl [2, 3, 4, 1, 0] rfl)
      rw [Jvm.Kit.i32_add (by omega) (by omega), t1, ha, zyc, if_pos (by omega)]; omega
/-- what year answers where no years are counted -/
def zya (y : Nat) (w : Int) : Int := if w = 0 then (zyk 4 y : Int) else (zla (zcw 13 0 (y : Int)) w).toInt
set_option maxRecDepth 100000 in
theorem zw_myear {Nn : Nat} {y w : Int32} {ls : Array Slot} (hF : sx_Frm D zCl zAO zTB b0 zM192 bud p R s m args meth c) (hb1 : 3 ≤ bud.1) (hb2 : 65 ≤ bud.2.1) (hnc : nc ≤ bud.2.2.1) (hns : ns ≤ bud.2.2.2) (hn : n = 20) (hT : py_T (sxRT L) Sg ρ FA q r th rm z0 g) (hy : y.toInt = (Nn : Int)) (hN : Nn ≤ 3999) (hH : sx_H D zCl (sxRT L) b0 Sg s H) (hV : va_S (fun q => b0 ≤ q) s.heap H locs) (hP : py_P FT D (sxRT L) Sg ρ (K1, FA) q r n th H f v) (hl : lv_has ls 5 [(0, .ref th), (1, .int y), (2, .int w)])
    (K : ∀ (a : Int32) (H' : Heap) (locs' : List Loc) (f' : Nat → Int32) (v' : Int32) (ls' : Array Slot), sx_H D zCl (sxRT L) b0 Sg s H' → va_S (fun q => b0 ≤ q) s.heap H' locs' → py_P FT D (sxRT L) Sg ρ (K1, FA) q r n th H' f' v' → a.toInt = zya Nn w.toInt → lv_has ls' 5 [] → W p l e R s m args below meth c H' locs' nc ns Q (F0 m 112 ls' [.int a])) : W p l e R s m args below meth c H locs nc ns Q (F0 m 71 ls []) := by
  have hR := zkDe_rows zDe192
  have hC := hF.1
  obtain ⟨hx, hb, -, -, -⟩ := id hC
  have t1 : (Int32.ofInt 1).toInt = 1 := by decide
  refine pv_W hx hb hR 2 73 [(0, .ref th), (1, .int y), (2, .int w)] [.int y, .ref th] rfl hl (fun ls hl => ?_)
  refine py_wy (Y := Nn) rfl hF hl.1 hb1 hb2 hnc hns hn hT hH hV hP hy hN (fun H' locs' v' hH' hV' hP' hv' => ?_)
  obtain ⟨y1, y2, y3⟩ := zyw_ok hN
  refine pv_W hx hb hR 1 77 [(0, .ref th), (1, .int y), (2, .int w)] [.int w] rfl hl (fun ls hl => ?_)
  refine pv_if hC hR .ne 10 87 rfl rfl (fun h => ?_) (fun h => ?_)
  · have h : w.toInt ≠ 0 := h
    refine pv_W hx hb hR 4 91 [(0, .ref th), (1, .int y), (2, .int w)] [.ref th, .int (Int32.ofInt 1), .int w, .ref th] rfl hl (fun ls hl => ?_)
    refine py_get (zmt (j := 192) rfl) rfl rfl hF hT hH' hP' ?_
    refine zcall0 (L := L) (M := zM129) (vs := [.ref th, .int w, .int (Int32.ofInt 1), .int v']) (rest := []) zD12 (158, 0, 129, 3) (by decide +kernel) rfl (by decide +kernel) rfl (zmt (j := 192) rfl) rfl hF rfl (Nat.le_of_ble_eq_true rfl) (Nat.le_of_ble_eq_true rfl) (by omega) (by show 19 + 4 ≤ _; omega) (fun h => by cases h) rfl rfl hnc hns (zrecv (cq := (zR12, zT12, 73)) hF.2.1 hH' hT.1.1 hT.1.2.1 hT.1.2.2.1 (by rw [hT.1.2.2.2.1]; rfl) rfl) hH' hV' hl.1 zc_isin (fun vo H2 locs2 k1 k2 k3 => ?_)
    obtain ⟨rfl, rfl⟩ := k3
    by_cases hc : (Int32.ofInt 1).toInt ≤ w.toInt ∧ w.toInt ≤ v'.toInt
    · rw [if_pos hc]
      refine pv_if hC hR .eq 14 111 rfl rfl (fun h => ?_) (fun _ => ?_)
      · have h : (1 : Int32).toInt = 0 := h
        exact absurd h (by decide)
      have hwx : (w - Int32.ofInt 1).toInt = w.toInt - 1 := by rw [Jvm.Kit.i32_sub (by omega) (by omega), t1]
      refine pv_W hx hb hR 1 101 [(0, .ref th), (1, .int y), (2, .int w)] [.ref th] rfl hl (fun ls hl => ?_)
      refine py_arr (zmt (j := 192) rfl) rfl rfl hF hT k1 k2 hP' ?_
      refine pv_W hx hb hR 3 107 [(0, .ref th), (1, .int y), (2, .int w)] [.int (w - Int32.ofInt 1), .ref q] rfl hl (fun ls hl => ?_)
      refine pa_ald hC k1 hP'.2.1 (by omega) (by omega) (pv_row hR rfl) ?_
      refine pv_W hx hb hR 1 112 [(0, .ref th), (1, .int y), (2, .int w)] [.int (zwr f 0 (zyw Nn) (w - Int32.ofInt 1).toInt.toNat)] rfl hl (fun ls hl => ?_)
      refine K _ H2 locs2 _ v' ls k1 k2 hP' ?_ (lv_sub hl [] rfl)
      have hg := zwr_get (zyw Nn) f 0 (w - Int32.ofInt 1).toInt.toNat (-1) (by omega)
      rw [Nat.zero_add] at hg
      unfold zya zla
      rw [if_neg h, ← y1, if_pos ⟨by omega, by omega⟩, hg, hwx]
    · rw [if_neg hc]
      refine pv_if hC hR .eq 14 111 rfl rfl (fun _ => ?_) (fun h => ?_)
      · refine pv_W hx hb hR 1 112 [(0, .ref th), (1, .int y), (2, .int w)] [.int (Int32.ofInt (-1))] rfl hl (fun ls hl => ?_)
        refine K _ H2 locs2 _ v' ls k1 k2 hP' ?_ (lv_sub hl [] rfl)
        unfold zya zla
        rw [if_neg h, ← y1, if_neg (fun hq => hc ⟨by omega, by omega⟩)]
        decide
      · have h : (0 : Int32).toInt ≠ 0 := h
        exact absurd (by decide) h
  · have h : w.toInt = 0 := h
    refine pv_W hx hb hR 1 81 [(0, .ref th), (1, .int y), (2, .int w)] [.ref th] rfl hl (fun ls hl => ?_)
    refine py_get (zmt (j := 192) rfl) rfl rfl hF hT hH' hP' ?_
    refine pv_W hx hb hR 1 112 [(0, .ref th), (1, .int y), (2, .int w)] [.int v'] rfl hl (fun ls hl => ?_)
    refine K _ H' locs' _ v' ls hH' hV' hP' ?_ (lv_sub hl [] rfl)
    unfold zya
    rw [if_pos h, hv', y2]
end PYC
