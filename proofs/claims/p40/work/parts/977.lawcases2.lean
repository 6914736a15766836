/-! the law's cases that are walked by hand (printed by wip/fz/mkfz.py) -/
theorem zin32 (x : Int32) : pm_in x.toInt := pm_in_mk (Int32.le_toInt x) (by have := Int32.toInt_lt x; omega)
section LK2
variable {D : va_G} {ST : List (String × String × String × Nat)} {b0 : sx_B} {l : Launch} {B0 : Nat → Prop} {Sg : Nat → Option Nat} {p : Program} {e : Env} {R : Room} {s : State} {m : MethodId} {args : Array Value} {below : List Frame} {meth : Method} {c : Code} {b ax am L : Nat} {xs : Nat → Int32} {nc ns : Nat} {Q : State → Prop} {H : Heap} {locs : List Loc} {ls : Array Slot} {i : Int32}

set_option maxRecDepth 100000 in
theorem zlk8 (C : zLC D ST b0 l B0 Sg p R s m args meth c b ax am L xs nc ns) (hi : 0 ≤ i.toInt ∧ i.toInt + 6 ≤ L) (hX : zLX D b0 B0 Sg s H locs) (hl : lv_has ls 4 (zlv b ax am i)) (next : ∀ (H2 : Heap) (locs2 : List Loc) (ls2 : Array Slot), zLX D b0 B0 Sg s H2 locs2 → lv_has ls2 4 (zlv b ax am i) → W p l e R s m args below meth c H2 locs2 nc ns Q (F0 m 1404 ls2 [])) : W p l e R s m args below meth c H locs nc ns Q (F0 m 492 ls []) := by
  obtain ⟨hK, hw, hB, hB0, hCt, hF, -, -, hax, ham, hnc, hns⟩ := id C
  obtain ⟨hx, hb, -, -, -⟩ := id hF.1
  have hR := zMk0.1
  refine pv_W hx hb hR 1 493 (zlv b ax am i) [.ref ax] rfl hl (fun ls hl => ?_)
  refine zl_arg C (k := 1) (st := [.ref ax]) hX hl ⟨hi.1, by have := hi.2; omega⟩ (by decide) rfl rfl (fun ls hl => ?_)
  refine zl_m C 325 (ct := zC325) (50, 0, 46, 1) zM46 [(2, 1), (0, (xs (i.toInt.toNat + 1)).toInt)] (vs := [.ref ax, .int (xs (i.toInt.toNat + 1))]) hX rfl rfl rfl rfl rfl rfl ⟨Nat.le_of_ble_eq_true rfl, Nat.le_of_ble_eq_true rfl⟩ rfl ⟨_, _, rfl⟩ (zsr1 hax (zsi1 (trivial))) (zar1 (zai1 (trivial))) hl.1 (by decide +kernel) rfl (fun H locs hX => ?_)
  refine pv_W hx hb hR 1 503 (zlv b ax am i) [.ref am] rfl hl (fun ls hl => ?_)
  refine zl_arg C (k := 1) (st := [.ref am]) hX hl ⟨hi.1, by have := hi.2; omega⟩ (by decide) rfl rfl (fun ls hl => ?_)
  refine zl_hg (I := zR) (I' := zR) (Eq := fun μ μ' => ∀ q ∈ sx_Fz, μ' q.1 (q.2 : Int) = μ q.1 (q.2 : Int)) C (Wm := 26946834052709486434018592676346126786800563246111304891567551021056) (bf := 10) (bl := 215) (53, 0, 137, 1) zM137 [(2, 205), (0, (xs (i.toInt.toNat + 1)).toInt)] (vs := [.ref am, .int (xs (i.toInt.toNat + 1))]) hX (fun μ hT hI => zC_mono (zh_text (φ := some μ) hK hw (hCt (some μ) 432 zC432 rfl) (by decide +kernel) (hCt (some μ) 433 zC433 rfl) (by decide +kernel) (zTJ_self hT) (by decide +kernel) (by decide +kernel) (by decide +kernel) (by decide +kernel) (by decide +kernel) (by decide +kernel) (by decide +kernel) (by decide +kernel) (by decide +kernel) (by decide +kernel) (by decide +kernel) (by decide +kernel) ⟨Nat.le_refl _, Nat.le_refl _⟩) (fun st' μ' h => by obtain ⟨x, rfl, -, -, h3⟩ := h; exact ⟨⟨x, rfl⟩, zTJ_none h3, zTJ_fz h3⟩)) (fun μ μ' hT hI hE hfr => zR_fr hfr (by decide +kernel) hE hI) rfl rfl rfl rfl ⟨Nat.le_of_ble_eq_true rfl, Nat.le_of_ble_eq_true rfl⟩ (zsr1 ham (zsi1 (trivial))) hl.1 rfl (fun H locs hX => ?_)
  refine pv_W hx hb hR 1 1404 (zlv b ax am i) [] rfl hl (fun ls hl => ?_)
  exact next H locs ls hX hl
set_option maxRecDepth 100000 in
theorem zlk14 (C : zLC D ST b0 l B0 Sg p R s m args meth c b ax am L xs nc ns) (hi : 0 ≤ i.toInt ∧ i.toInt + 6 ≤ L) (hX : zLX D b0 B0 Sg s H locs) (hl : lv_has ls 4 (zlv b ax am i)) (next : ∀ (H2 : Heap) (locs2 : List Loc) (ls2 : Array Slot), zLX D b0 B0 Sg s H2 locs2 → lv_has ls2 4 (zlv b ax am i) → W p l e R s m args below meth c H2 locs2 nc ns Q (F0 m 1404 ls2 [])) : W p l e R s m args below meth c H locs nc ns Q (F0 m 670 ls []) := by
  obtain ⟨hK, hw, hB, hB0, hCt, hF, -, -, hax, ham, hnc, hns⟩ := id C
  obtain ⟨hx, hb, -, -, -⟩ := id hF.1
  have hR := zMk0.1
  refine pv_W hx hb hR 1 671 (zlv b ax am i) [.ref ax] rfl hl (fun ls hl => ?_)
  refine zl_arg C (k := 1) (st := [.ref ax]) hX hl ⟨hi.1, by have := hi.2; omega⟩ (by decide) rfl rfl (fun ls hl => ?_)
  refine zl_m C 349 (ct := zC349) (74, 0, 62, 1) zM62 [(2, 1), (0, (xs (i.toInt.toNat + 1)).toInt)] (vs := [.ref ax, .int (xs (i.toInt.toNat + 1))]) hX rfl rfl rfl rfl rfl rfl ⟨Nat.le_of_ble_eq_true rfl, Nat.le_of_ble_eq_true rfl⟩ rfl ⟨_, _, rfl⟩ (zsr1 hax (zsi1 (trivial))) (zar1 (zai1 (trivial))) hl.1 (by decide +kernel) rfl (fun H locs hX => ?_)
  refine pv_W hx hb hR 1 681 (zlv b ax am i) [.ref am] rfl hl (fun ls hl => ?_)
  refine zl_arg C (k := 1) (st := [.ref am]) hX hl ⟨hi.1, by have := hi.2; omega⟩ (by decide) rfl rfl (fun ls hl => ?_)
  refine zl_hg (I := zR) (I' := zR) (Eq := fun μ μ' => ∀ q ∈ sx_Fz, μ' q.1 (q.2 : Int) = μ q.1 (q.2 : Int)) C (Wm := 404399251429277013207694043648081415021760447048604388265924883382272) (bf := 7) (bl := 160) (77, 0, 166, 1) zM166 [(2, 205), (0, (xs (i.toInt.toNat + 1)).toInt)] (vs := [.ref am, .int (xs (i.toInt.toNat + 1))]) hX (fun μ hT hI => zC_mono (zh_cheaply (φ := some μ) hK hw (hCt (some μ) 459 zC459 rfl) (by decide +kernel) (zin32 _) (zTJ_self hT) (by decide +kernel) (by decide +kernel) ⟨Nat.le_refl _, Nat.le_refl _⟩) (fun st' μ' h => by obtain ⟨x, rfl, -, -, h3⟩ := h; exact ⟨⟨x, rfl⟩, zTJ_none h3, zTJ_fz h3⟩)) (fun μ μ' hT hI hE hfr => zR_fr hfr (by decide +kernel) hE hI) rfl rfl rfl rfl ⟨Nat.le_of_ble_eq_true rfl, Nat.le_of_ble_eq_true rfl⟩ (zsr1 ham (zsi1 (trivial))) hl.1 rfl (fun H locs hX => ?_)
  refine pv_W hx hb hR 1 1404 (zlv b ax am i) [] rfl hl (fun ls hl => ?_)
  exact next H locs ls hX hl
set_option maxRecDepth 100000 in
theorem zlk21 (C : zLC D ST b0 l B0 Sg p R s m args meth c b ax am L xs nc ns) (hi : 0 ≤ i.toInt ∧ i.toInt + 6 ≤ L) (hX : zLX D b0 B0 Sg s H locs) (hl : lv_has ls 4 (zlv b ax am i)) (next : ∀ (H2 : Heap) (locs2 : List Loc) (ls2 : Array Slot), zLX D b0 B0 Sg s H2 locs2 → lv_has ls2 4 (zlv b ax am i) → W p l e R s m args below meth c H2 locs2 nc ns Q (F0 m 1404 ls2 [])) : W p l e R s m args below meth c H locs nc ns Q (F0 m 901 ls []) := by
  obtain ⟨hK, hw, hB, hB0, hCt, hF, -, -, hax, ham, hnc, hns⟩ := id C
  obtain ⟨hx, hb, -, -, -⟩ := id hF.1
  have hR := zMk0.1
  refine pv_W hx hb hR 1 902 (zlv b ax am i) [.ref ax] rfl hl (fun ls hl => ?_)
  refine zl_arg C (k := 1) (st := [.ref ax]) hX hl ⟨hi.1, by have := hi.2; omega⟩ (by decide) rfl rfl (fun ls hl => ?_)
  refine zl_arg C (k := 2) (st := [.int (xs (i.toInt.toNat + 1)), .ref ax]) hX hl ⟨hi.1, by have := hi.2; omega⟩ (by decide) rfl rfl (fun ls hl => ?_)
  refine zl_hg (I := zR) (I' := zH_errand ((xs (i.toInt.toNat + 1)).toInt) ((xs (i.toInt.toNat + 2)).toInt)) (Eq := fun μ μ' => (∀ q, q ≠ 33 → q ≠ 34 → q ≠ 35 → q ≠ 36 → μ' q = μ q) ∧ μ' 33 1 = zEc ((xs (i.toInt.toNat + 1)).toInt) ((xs (i.toInt.toNat + 2)).toInt) (μ 33 1) ∧ μ' 35 1 = zEc ((xs (i.toInt.toNat + 1)).toInt) ((xs (i.toInt.toNat + 2)).toInt) (μ 33 1)) C (Wm := 128849018880) (bf := 3) (bl := 65) (104, 0, 84, 2) zM84 [(2, 1), (0, (xs (i.toInt.toNat + 1)).toInt), (0, (xs (i.toInt.toNat + 2)).toInt)] (vs := [.ref ax, .int (xs (i.toInt.toNat + 1)), .int (xs (i.toInt.toNat + 2))]) hX (fun μ hT hI => zC_mono (zh_errandz hK hT hI.2.1 (by decide +kernel) (by decide +kernel) (by decide +kernel) (by decide +kernel) ⟨Nat.le_refl _, Nat.le_refl _⟩) (fun st' μ' h => ⟨⟨_, h.1⟩, h.2.1, h.2.2.1, h.2.2.2.1, h.2.2.2.2⟩)) (fun μ μ' hT hI hE hfr => ⟨μ, hI, hE.1, hE.2.1, hE.2.2⟩) rfl rfl rfl rfl ⟨Nat.le_of_ble_eq_true rfl, Nat.le_of_ble_eq_true rfl⟩ (zsr1 hax (zsi1 (zsi1 (trivial)))) hl.1 rfl (fun H locs hX => ?_)
  refine pv_W hx hb hR 1 917 (zlv b ax am i) [.ref am] rfl hl (fun ls hl => ?_)
  refine zl_arg C (k := 1) (st := [.ref am]) hX hl ⟨hi.1, by have := hi.2; omega⟩ (by decide) rfl rfl (fun ls hl => ?_)
  refine zl_arg C (k := 2) (st := [.int (xs (i.toInt.toNat + 1)), .ref am]) hX hl ⟨hi.1, by have := hi.2; omega⟩ (by decide) rfl rfl (fun ls hl => ?_)
  refine zl_hg (I := zH_errand ((xs (i.toInt.toNat + 1)).toInt) ((xs (i.toInt.toNat + 2)).toInt)) (I' := zR) (Eq := fun μ μ' => (∀ q, q ≠ 205 → q ≠ 234 → q ≠ 235 → μ' q = μ q) ∧ (∀ k, k ≠ 0 → k ≠ 52 → μ' 205 k = μ 205 k) ∧ μ' 205 52 = zEc ((xs (i.toInt.toNat + 1)).toInt) ((xs (i.toInt.toNat + 2)).toInt) (μ 205 52)) C (Wm := 82820956212908782865504759164667092384330510946755134462999661415235584) (bf := 1) (bl := 23) (107, 0, 180, 2) zM180 [(2, 205), (0, (xs (i.toInt.toNat + 1)).toInt), (0, (xs (i.toInt.toNat + 2)).toInt)] (vs := [.ref am, .int (xs (i.toInt.toNat + 1)), .int (xs (i.toInt.toNat + 2))]) hX (fun μ hT hI => zC_mono (zh_errandm hK hT (by decide +kernel) (by decide +kernel) (by decide +kernel) ⟨Nat.le_refl _, Nat.le_refl _⟩) (fun st' μ' h => ⟨⟨_, h.1⟩, h.2.1, h.2.2.1, h.2.2.2.1, h.2.2.2.2⟩)) (fun μ μ' hT hI hE hfr => zR_errand hI hE.1 hE.2.1 hE.2.2) rfl rfl rfl rfl ⟨Nat.le_of_ble_eq_true rfl, Nat.le_of_ble_eq_true rfl⟩ (zsr1 ham (zsi1 (zsi1 (trivial)))) hl.1 rfl (fun H locs hX => ?_)
  refine pv_W hx hb hR 1 1404 (zlv b ax am i) [] rfl hl (fun ls hl => ?_)
  exact next H locs ls hX hl
set_option maxRecDepth 100000 in
theorem zlk22 (C : zLC D ST b0 l B0 Sg p R s m args meth c b ax am L xs nc ns) (hi : 0 ≤ i.toInt ∧ i.toInt + 6 ≤ L) (hX : zLX D b0 B0 Sg s H locs) (hl : lv_has ls 4 (zlv b ax am i)) (next : ∀ (H2 : Heap) (locs2 : List Loc) (ls2 : Array Slot), zLX D b0 B0 Sg s H2 locs2 → lv_has ls2 4 (zlv b ax am i) → W p l e R s m args below meth c H2 locs2 nc ns Q (F0 m 1404 ls2 [])) : W p l e R s m args below meth c H locs nc ns Q (F0 m 934 ls []) := by
  obtain ⟨hK, hw, hB, hB0, hCt, hF, -, -, hax, ham, hnc, hns⟩ := id C
  obtain ⟨hx, hb, -, -, -⟩ := id hF.1
  have hR := zMk0.1
  refine pv_W hx hb hR 1 935 (zlv b ax am i) [.ref ax] rfl hl (fun ls hl => ?_)
  refine zl_arg C (k := 1) (st := [.ref ax]) hX hl ⟨hi.1, by have := hi.2; omega⟩ (by decide) rfl rfl (fun ls hl => ?_)
  refine zl_hg (I := zR) (I' := zR) (Eq := fun μ μ' => ∀ q ∈ sx_Fz, μ' q.1 (q.2 : Int) = μ q.1 (q.2 : Int)) C (Wm := 38566513062215766613007090216187902460532871850787028047233024) (bf := 2) (bl := 51) (108, 0, 85, 1) zM85 [(2, 1), (0, (xs (i.toInt.toNat + 1)).toInt)] (vs := [.ref ax, .int (xs (i.toInt.toNat + 1))]) hX (fun μ hT hI => zC_mono (zh_served (φ := some μ) hK hI.2.1 (zTJ_self hT) (by decide +kernel) (by decide +kernel) ⟨Nat.le_refl _, Nat.le_refl _⟩) (fun st' μ' h => by obtain ⟨x, rfl, -, -, h3⟩ := h; exact ⟨⟨x, rfl⟩, zTJ_none h3, zTJ_fz h3⟩)) (fun μ μ' hT hI hE hfr => zR_fr hfr (by decide +kernel) hE hI) rfl rfl rfl rfl ⟨Nat.le_of_ble_eq_true rfl, Nat.le_of_ble_eq_true rfl⟩ (zsr1 hax (zsi1 (trivial))) hl.1 rfl (fun H locs hX => ?_)
  refine pv_W hx hb hR 1 945 (zlv b ax am i) [.ref am] rfl hl (fun ls hl => ?_)
  refine zl_arg C (k := 1) (st := [.ref am]) hX hl ⟨hi.1, by have := hi.2; omega⟩ (by decide) rfl rfl (fun ls hl => ?_)
  refine zl_m C 470 (ct := zC470) (111, 0, 181, 1) zM181 [(2, 205), (0, (xs (i.toInt.toNat + 1)).toInt)] (vs := [.ref am, .int (xs (i.toInt.toNat + 1))]) hX rfl rfl rfl rfl rfl rfl ⟨Nat.le_of_ble_eq_true rfl, Nat.le_of_ble_eq_true rfl⟩ rfl ⟨_, _, rfl⟩ (zsr1 ham (zsi1 (trivial))) (zar1 (zai1 (trivial))) hl.1 (by decide +kernel) rfl (fun H locs hX => ?_)
  refine pv_W hx hb hR 1 1404 (zlv b ax am i) [] rfl hl (fun ls hl => ?_)
  exact next H locs ls hX hl
set_option maxRecDepth 100000 in
theorem zlk24 (C : zLC D ST b0 l B0 Sg p R s m args meth c b ax am L xs nc ns) (hi : 0 ≤ i.toInt ∧ i.toInt + 6 ≤ L) (hX : zLX D b0 B0 Sg s H locs) (hl : lv_has ls 4 (zlv b ax am i)) (next : ∀ (H2 : Heap) (locs2 : List Loc) (ls2 : Array Slot), zLX D b0 B0 Sg s H2 locs2 → lv_has ls2 4 (zlv b ax am i) → W p l e R s m args below meth c H2 locs2 nc ns Q (F0 m 1404 ls2 [])) : W p l e R s m args below meth c H locs nc ns Q (F0 m 1000 ls []) := by
  obtain ⟨hK, hw, hB, hB0, hCt, hF, -, -, hax, ham, hnc, hns⟩ := id C
  obtain ⟨hx, hb, -, -, -⟩ := id hF.1
  have hR := zMk0.1
  refine pv_W hx hb hR 1 1001 (zlv b ax am i) [.ref ax] rfl hl (fun ls hl => ?_)
  refine zl_arg C (k := 1) (st := [.ref ax]) hX hl ⟨hi.1, by have := hi.2; omega⟩ (by decide) rfl rfl (fun ls hl => ?_)
  refine zl_hg (I := zR) (I' := zH_thread ((xs (i.toInt.toNat + 1)).toInt)) (Eq := fun μ μ' => (∀ q, q ≠ 37 → q ≠ 38 → μ' q = μ q) ∧ μ' 37 1 = zTc (-1) 1 99 8 ((xs (i.toInt.toNat + 1)).toInt) (μ 37 1)) C (Wm := 412316860416) (bf := 3) (bl := 65) (116, 0, 91, 1) zM91 [(2, 1), (0, (xs (i.toInt.toNat + 1)).toInt)] (vs := [.ref ax, .int (xs (i.toInt.toNat + 1))]) hX (fun μ hT hI => zC_mono (zh_threadx hK hT (by decide +kernel) (by decide +kernel) ⟨Nat.le_refl _, Nat.le_refl _⟩) (fun st' μ' h => ⟨⟨_, h.1⟩, h.2.1, h.2.2.1, h.2.2.2.1⟩)) (fun μ μ' hT hI hE hfr => ⟨μ, hI, hE.1, hE.2⟩) rfl rfl rfl rfl ⟨Nat.le_of_ble_eq_true rfl, Nat.le_of_ble_eq_true rfl⟩ (zsr1 hax (zsi1 (trivial))) hl.1 rfl (fun H locs hX => ?_)
  refine pv_W hx hb hR 1 1011 (zlv b ax am i) [.ref am] rfl hl (fun ls hl => ?_)
  refine zl_arg C (k := 1) (st := [.ref am]) hX hl ⟨hi.1, by have := hi.2; omega⟩ (by decide) rfl rfl (fun ls hl => ?_)
  refine zl_hg (I := zH_thread ((xs (i.toInt.toNat + 1)).toInt)) (I' := zR) (Eq := fun μ μ' => (∀ q, q ≠ 205 → q ≠ 237 → μ' q = μ q) ∧ (∀ k, k ≠ 0 → k ≠ 56 → μ' 205 k = μ 205 k) ∧ μ' 205 56 = zTc (-1) 1 99 8 ((xs (i.toInt.toNat + 1)).toInt) (μ 205 56)) C (Wm := 220855883148720058614199876410207601433352690390162865566250145891221504) (bf := 1) (bl := 23) (119, 0, 186, 1) zM186 [(2, 205), (0, (xs (i.toInt.toNat + 1)).toInt)] (vs := [.ref am, .int (xs (i.toInt.toNat + 1))]) hX (fun μ hT hI => zC_mono (zh_threadm hK hT (by decide +kernel) (by decide +kernel) ⟨Nat.le_refl _, Nat.le_refl _⟩) (fun st' μ' h => ⟨⟨_, h.1⟩, h.2.1, h.2.2.1, h.2.2.2.1, h.2.2.2.2.1⟩)) (fun μ μ' hT hI hE hfr => zR_thread hI hE.1 hE.2.1 hE.2.2) rfl rfl rfl rfl ⟨Nat.le_of_ble_eq_true rfl, Nat.le_of_ble_eq_true rfl⟩ (zsr1 ham (zsi1 (trivial))) hl.1 rfl (fun H locs hX => ?_)
  refine pv_W hx hb hR 1 1404 (zlv b ax am i) [] rfl hl (fun ls hl => ?_)
  exact next H locs ls hX hl
set_option maxRecDepth 100000 in
theorem zlk26 (C : zLC D ST b0 l B0 Sg p R s m args meth c b ax am L xs nc ns) (hi : 0 ≤ i.toInt ∧ i.toInt + 6 ≤ L) (hX : zLX D b0 B0 Sg s H locs) (hl : lv_has ls 4 (zlv b ax am i)) (next : ∀ (H2 : Heap) (locs2 : List Loc) (ls2 : Array Slot), zLX D b0 B0 Sg s H2 locs2 → lv_has ls2 4 (zlv b ax am i) → W p l e R s m args below meth c H2 locs2 nc ns Q (F0 m 1404 ls2 [])) : W p l e R s m args below meth c H locs nc ns Q (F0 m 1046 ls []) := by
  obtain ⟨hK, hw, hB, hB0, hCt, hF, -, -, hax, ham, hnc, hns⟩ := id C
  obtain ⟨hx, hb, -, -, -⟩ := id hF.1
  have hR := zMk0.1
  refine pv_W hx hb hR 1 1047 (zlv b ax am i) [.ref ax] rfl hl (fun ls hl => ?_)
  refine zl_arg C (k := 1) (st := [.ref ax]) hX hl ⟨hi.1, by have := hi.2; omega⟩ (by decide) rfl rfl (fun ls hl => ?_)
  refine zl_hg (I := zR) (I' := zH_earn ((xs (i.toInt.toNat + 1)).toInt)) (Eq := fun μ μ' => (∀ q, q ≠ 39 → q ≠ 40 → μ' q = μ q) ∧ μ' 39 1 = zTc (-1000) (-99) 99 12 ((xs (i.toInt.toNat + 1)).toInt) (μ 39 1)) C (Wm := 1649267441664) (bf := 3) (bl := 65) (124, 0, 95, 1) zM95 [(2, 1), (0, (xs (i.toInt.toNat + 1)).toInt)] (vs := [.ref ax, .int (xs (i.toInt.toNat + 1))]) hX (fun μ hT hI => zC_mono (zh_earnx hK hT (by decide +kernel) (by decide +kernel) ⟨Nat.le_refl _, Nat.le_refl _⟩) (fun st' μ' h => ⟨⟨_, h.1⟩, h.2.1, h.2.2.1, h.2.2.2.1⟩)) (fun μ μ' hT hI hE hfr => ⟨μ, hI, hE.1, hE.2⟩) rfl rfl rfl rfl ⟨Nat.le_of_ble_eq_true rfl, Nat.le_of_ble_eq_true rfl⟩ (zsr1 hax (zsi1 (trivial))) hl.1 rfl (fun H locs hX => ?_)
  refine pv_W hx hb hR 1 1057 (zlv b ax am i) [.ref am] rfl hl (fun ls hl => ?_)
  refine zl_arg C (k := 1) (st := [.ref am]) hX hl ⟨hi.1, by have := hi.2; omega⟩ (by decide) rfl rfl (fun ls hl => ?_)
  refine zl_hg (I := zH_earn ((xs (i.toInt.toNat + 1)).toInt)) (I' := zR) (Eq := fun μ μ' => (∀ q, q ≠ 205 → q ≠ 239 → μ' q = μ q) ∧ (∀ k, k ≠ 0 → k ≠ 59 → μ' 205 k = μ 205 k) ∧ μ' 205 59 = zTc (-1000) (-99) 99 12 ((xs (i.toInt.toNat + 1)).toInt) (μ 205 59)) C (Wm := 883423532440614182207936439188802044868659151718519974861852471375953920) (bf := 1) (bl := 23) (127, 0, 188, 1) zM188 [(2, 205), (0, (xs (i.toInt.toNat + 1)).toInt)] (vs := [.ref am, .int (xs (i.toInt.toNat + 1))]) hX (fun μ hT hI => zC_mono (zh_earnm hK hT (by decide +kernel) (by decide +kernel) ⟨Nat.le_refl _, Nat.le_refl _⟩) (fun st' μ' h => ⟨⟨_, h.1⟩, h.2.1, h.2.2.1, h.2.2.2.1, h.2.2.2.2.1⟩)) (fun μ μ' hT hI hE hfr => zR_earn hI hE.1 hE.2.1 hE.2.2) rfl rfl rfl rfl ⟨Nat.le_of_ble_eq_true rfl, Nat.le_of_ble_eq_true rfl⟩ (zsr1 ham (zsi1 (trivial))) hl.1 rfl (fun H locs hX => ?_)
  refine pv_W hx hb hR 1 1404 (zlv b ax am i) [] rfl hl (fun ls hl => ?_)
  exact next H locs ls hX hl
set_option maxRecDepth 100000 in
theorem zlk30 (C : zLC D ST b0 l B0 Sg p R s m args meth c b ax am L xs nc ns) (hi : 0 ≤ i.toInt ∧ i.toInt + 6 ≤ L) (hX : zLX D b0 B0 Sg s H locs) (hl : lv_has ls 4 (zlv b ax am i)) (next : ∀ (H2 : Heap) (locs2 : List Loc) (ls2 : Array Slot), zLX D b0 B0 Sg s H2 locs2 → lv_has ls2 4 (zlv b ax am i) → W p l e R s m args below meth c H2 locs2 nc ns Q (F0 m 1404 ls2 [])) : W p l e R s m args below meth c H locs nc ns Q (F0 m 1168 ls []) := by
  obtain ⟨hK, hw, hB, hB0, hCt, hF, -, -, hax, ham, hnc, hns⟩ := id C
  obtain ⟨hx, hb, -, -, -⟩ := id hF.1
  have hR := zMk0.1
  refine pv_W hx hb hR 1 1169 (zlv b ax am i) [.ref ax] rfl hl (fun ls hl => ?_)
  refine zl_arg C (k := 1) (st := [.ref ax]) hX hl ⟨hi.1, by have := hi.2; omega⟩ (by decide) rfl rfl (fun ls hl => ?_)
  refine zl_hg (I := zR) (I' := zH_price ((xs (i.toInt.toNat + 1)).toInt)) (Eq := fun μ μ' => (∀ q, q ≠ 41 → q ≠ 42 → μ' q = μ q) ∧ μ' 41 1 = zTc (-1) 1 99 10 ((xs (i.toInt.toNat + 1)).toInt) (μ 41 1)) C (Wm := 6597069766656) (bf := 3) (bl := 65) (140, 0, 104, 1) zM104 [(2, 1), (0, (xs (i.toInt.toNat + 1)).toInt)] (vs := [.ref ax, .int (xs (i.toInt.toNat + 1))]) hX (fun μ hT hI => zC_mono (zh_pricex hK hT (by decide +kernel) (by decide +kernel) ⟨Nat.le_refl _, Nat.le_refl _⟩) (fun st' μ' h => ⟨⟨_, h.1⟩, h.2.1, h.2.2.1, h.2.2.2.1⟩)) (fun μ μ' hT hI hE hfr => ⟨μ, hI, hE.1, hE.2⟩) rfl rfl rfl rfl ⟨Nat.le_of_ble_eq_true rfl, Nat.le_of_ble_eq_true rfl⟩ (zsr1 hax (zsi1 (trivial))) hl.1 rfl (fun H locs hX => ?_)
  refine pv_W hx hb hR 1 1179 (zlv b ax am i) [.ref am] rfl hl (fun ls hl => ?_)
  refine zl_arg C (k := 1) (st := [.ref am]) hX hl ⟨hi.1, by have := hi.2; omega⟩ (by decide) rfl rfl (fun ls hl => ?_)
  refine zl_hg (I := zH_price ((xs (i.toInt.toNat + 1)).toInt)) (I' := zR) (Eq := fun μ μ' => (∀ q, q ≠ 205 → q ≠ 241 → μ' q = μ q) ∧ (∀ k, k ≠ 0 → k ≠ 63 → μ' 205 k = μ 205 k) ∧ μ' 205 63 = zTc (-1) 1 99 10 ((xs (i.toInt.toNat + 1)).toInt) (μ 205 63)) C (Wm := 3533694129608190676582882690303179818609884997031948412044261773314883584) (bf := 1) (bl := 23) (143, 0, 193, 1) zM193 [(2, 205), (0, (xs (i.toInt.toNat + 1)).toInt)] (vs := [.ref am, .int (xs (i.toInt.toNat + 1))]) hX (fun μ hT hI => zC_mono (zh_pricem hK hT (by decide +kernel) (by decide +kernel) ⟨Nat.le_refl _, Nat.le_refl _⟩) (fun st' μ' h => ⟨⟨_, h.1⟩, h.2.1, h.2.2.1, h.2.2.2.1, h.2.2.2.2.1⟩)) (fun μ μ' hT hI hE hfr => zR_price hI hE.1 hE.2.1 hE.2.2) rfl rfl rfl rfl ⟨Nat.le_of_ble_eq_true rfl, Nat.le_of_ble_eq_true rfl⟩ (zsr1 ham (zsi1 (trivial))) hl.1 rfl (fun H locs hX => ?_)
  refine pv_W hx hb hR 1 1404 (zlv b ax am i) [] rfl hl (fun ls hl => ?_)
  exact next H locs ls hX hl
set_option maxRecDepth 100000 in
theorem zlk34 (C : zLC D ST b0 l B0 Sg p R s m args meth c b ax am L xs nc ns) (hi : 0 ≤ i.toInt ∧ i.toInt + 6 ≤ L) (hX : zLX D b0 B0 Sg s H locs) (hl : lv_has ls 4 (zlv b ax am i)) (next : ∀ (H2 : Heap) (locs2 : List Loc) (ls2 : Array Slot), zLX D b0 B0 Sg s H2 locs2 → lv_has ls2 4 (zlv b ax am i) → W p l e R s m args below meth c H2 locs2 nc ns Q (F0 m 1404 ls2 [])) : W p l e R s m args below meth c H locs nc ns Q (F0 m 1270 ls []) := by
  obtain ⟨hK, hw, hB, hB0, hCt, hF, -, -, hax, ham, hnc, hns⟩ := id C
  obtain ⟨hx, hb, -, -, -⟩ := id hF.1
  have hR := zMk0.1
  refine pv_W hx hb hR 1 1271 (zlv b ax am i) [.ref ax] rfl hl (fun ls hl => ?_)
  refine zl_arg C (k := 1) (st := [.ref ax]) hX hl ⟨hi.1, by have := hi.2; omega⟩ (by decide) rfl rfl (fun ls hl => ?_)
  refine zl_hg (I := zR) (I' := zH_shutter ((xs (i.toInt.toNat + 1)).toInt)) (Eq := fun μ μ' => (∀ q, q ≠ 43 → q ≠ 44 → μ' q = μ q) ∧ μ' 43 1 = zTc (-1) 0 99 8 ((xs (i.toInt.toNat + 1)).toInt) (μ 43 1)) C (Wm := 26388279066624) (bf := 3) (bl := 65) (156, 0, 112, 1) zM112 [(2, 1), (0, (xs (i.toInt.toNat + 1)).toInt)] (vs := [.ref ax, .int (xs (i.toInt.toNat + 1))]) hX (fun μ hT hI => zC_mono (zh_shutterx hK hT (by decide +kernel) (by decide +kernel) ⟨Nat.le_refl _, Nat.le_refl _⟩) (fun st' μ' h => ⟨⟨_, h.1⟩, h.2.1, h.2.2.1, h.2.2.2.1⟩)) (fun μ μ' hT hI hE hfr => ⟨μ, hI, hE.1, hE.2⟩) rfl rfl rfl rfl ⟨Nat.le_of_ble_eq_true rfl, Nat.le_of_ble_eq_true rfl⟩ (zsr1 hax (zsi1 (trivial))) hl.1 rfl (fun H locs hX => ?_)
  refine pv_W hx hb hR 1 1281 (zlv b ax am i) [.ref am] rfl hl (fun ls hl => ?_)
  refine zl_arg C (k := 1) (st := [.ref am]) hX hl ⟨hi.1, by have := hi.2; omega⟩ (by decide) rfl rfl (fun ls hl => ?_)
  refine zl_hg (I := zH_shutter ((xs (i.toInt.toNat + 1)).toInt)) (I' := zR) (Eq := fun μ μ' => (∀ q, q ≠ 205 → q ≠ 244 → μ' q = μ q) ∧ (∀ k, k ≠ 0 → k ≠ 67 → μ' 205 k = μ 205 k) ∧ μ' 205 67 = zTc (-1) 0 99 8 ((xs (i.toInt.toNat + 1)).toInt) (μ 205 67)) C (Wm := 28269553036505571290749047700704039040194659553290613825746748591411560448) (bf := 1) (bl := 23) (159, 0, 200, 1) zM200 [(2, 205), (0, (xs (i.toInt.toNat + 1)).toInt)] (vs := [.ref am, .int (xs (i.toInt.toNat + 1))]) hX (fun μ hT hI => zC_mono (zh_shutterm hK hT (by decide +kernel) (by decide +kernel) ⟨Nat.le_refl _, Nat.le_refl _⟩) (fun st' μ' h => ⟨⟨_, h.1⟩, h.2.1, h.2.2.1, h.2.2.2.1, h.2.2.2.2.1⟩)) (fun μ μ' hT hI hE hfr => zR_shutter hI hE.1 hE.2.1 hE.2.2) rfl rfl rfl rfl ⟨Nat.le_of_ble_eq_true rfl, Nat.le_of_ble_eq_true rfl⟩ (zsr1 ham (zsi1 (trivial))) hl.1 rfl (fun H locs hX => ?_)
  refine pv_W hx hb hR 1 1404 (zlv b ax am i) [] rfl hl (fun ls hl => ?_)
  exact next H locs ls hX hl
end LK2
