/-! the law's cases errand, served, image, text, cheaply (printed by wip/p30/mk977.py) -/
theorem zin32 (x : Int32) : pm_in x.toInt := pm_in_mk (Int32.le_toInt x) (by have := Int32.toInt_lt x; omega)
section LK2
variable {D : va_G} {ST : List (String × String × String × Nat)} {b0 : sx_B} {l : Launch} {B0 : Nat → Prop} {Sg : Nat → Option Nat} {p : Program} {e : Env} {R : Room} {s : State} {m : MethodId} {args : Array Value} {below : List Frame} {meth : Method} {c : Code} {b ax am L : Nat} {xs : Nat → Int32} {nc ns : Nat} {Q : State → Prop} {H : Heap} {locs : List Loc} {ls : Array Slot} {i : Int32}

set_option maxRecDepth 100000 in
theorem zlk8 (C : zLC D ST b0 l B0 Sg p R s m args meth c b ax am L xs nc ns) (hi : 0 ≤ i.toInt ∧ i.toInt + 6 ≤ L) (hX : zLX D b0 B0 Sg s H locs) (hl : lv_has ls 4 (zlv b ax am i)) (next : ∀ (H2 : Heap) (locs2 : List Loc) (ls2 : Array Slot), zLX D b0 B0 Sg s H2 locs2 → lv_has ls2 4 (zlv b ax am i) → W p l e R s m args below meth c H2 locs2 nc ns Q (F0 m 1404 ls2 [])) : W p l e R s m args below meth c H locs nc ns Q (F0 m 492 ls []) := by
  obtain ⟨hK, hw, -, -, hCt, hF, -, -, hax, ham, -, -⟩ := id C
  obtain ⟨hx, hb, -, -, -⟩ := id hF.1
  have hR := zMk0.1
  refine pv_W hx hb hR 1 493 (zlv b ax am i) [.ref ax] rfl hl (fun ls hl => ?_)
  refine zl_arg C (k := 1) (st := [.ref ax]) hX hl ⟨hi.1, by have := hi.2; omega⟩ (by decide) rfl rfl (fun ls hl => ?_)
  refine zl_m C 325 (ct := zC325) (50, 0, 46, 1) zM46 [(2, 1), (0, (xs (i.toInt.toNat + 1)).toInt)] (vs := [.ref ax, .int (xs (i.toInt.toNat + 1))]) hX rfl rfl rfl rfl rfl rfl ⟨Nat.le_of_ble_eq_true rfl, Nat.le_of_ble_eq_true rfl⟩ rfl ⟨_, _, rfl⟩ (zsr1 hax (zsi1 (trivial))) (zar1 (zai1 (trivial))) hl.1 (by decide +kernel) rfl (fun H locs hX => ?_)
  refine pv_W hx hb hR 1 503 (zlv b ax am i) [.ref am] rfl hl (fun ls hl => ?_)
  refine zl_arg C (k := 1) (st := [.ref am]) hX hl ⟨hi.1, by have := hi.2; omega⟩ (by decide) rfl rfl (fun ls hl => ?_)
  refine zl_h C (Wm := 26946834052709486434018592676346126786800563246111304891567551021056) (bf := 10) (bl := 215) (53, 0, 137, 1) zM137 [(2, 205), (0, (xs (i.toInt.toNat + 1)).toInt)] (vs := [.ref am, .int (xs (i.toInt.toNat + 1))]) (Eq := fun _ => True) hX (fun μ hT hE => zC_mono (zh_text hK hw (hCt 432 zC432 rfl) (by decide +kernel) (hCt 433 zC433 rfl) (by decide +kernel) hT (by decide +kernel) (by decide +kernel) (by decide +kernel) (by decide +kernel) (by decide +kernel) (by decide +kernel) (by decide +kernel) (by decide +kernel) (by decide +kernel) (by decide +kernel) (by decide +kernel) (by decide +kernel) ⟨Nat.le_refl _, Nat.le_refl _⟩) (fun st' μ' h => by obtain ⟨x, rfl, -, -, h3⟩ := h; exact ⟨⟨x, rfl⟩, h3, trivial⟩)) (zEQ_fr (by decide +kernel)) rfl rfl rfl rfl ⟨Nat.le_of_ble_eq_true rfl, Nat.le_of_ble_eq_true rfl⟩ (zsr1 ham (zsi1 (trivial))) hl.1 rfl (fun H locs hX => ?_)
  refine pv_W hx hb hR 1 1404 (zlv b ax am i) [] rfl hl (fun ls hl => ?_)
  exact next H locs ls hX hl
set_option maxRecDepth 100000 in
theorem zlk14 (C : zLC D ST b0 l B0 Sg p R s m args meth c b ax am L xs nc ns) (hi : 0 ≤ i.toInt ∧ i.toInt + 6 ≤ L) (hX : zLX D b0 B0 Sg s H locs) (hl : lv_has ls 4 (zlv b ax am i)) (next : ∀ (H2 : Heap) (locs2 : List Loc) (ls2 : Array Slot), zLX D b0 B0 Sg s H2 locs2 → lv_has ls2 4 (zlv b ax am i) → W p l e R s m args below meth c H2 locs2 nc ns Q (F0 m 1404 ls2 [])) : W p l e R s m args below meth c H locs nc ns Q (F0 m 670 ls []) := by
  obtain ⟨hK, hw, -, -, hCt, hF, -, -, hax, ham, -, -⟩ := id C
  obtain ⟨hx, hb, -, -, -⟩ := id hF.1
  have hR := zMk0.1
  refine pv_W hx hb hR 1 671 (zlv b ax am i) [.ref ax] rfl hl (fun ls hl => ?_)
  refine zl_arg C (k := 1) (st := [.ref ax]) hX hl ⟨hi.1, by have := hi.2; omega⟩ (by decide) rfl rfl (fun ls hl => ?_)
  refine zl_m C 349 (ct := zC349) (74, 0, 62, 1) zM62 [(2, 1), (0, (xs (i.toInt.toNat + 1)).toInt)] (vs := [.ref ax, .int (xs (i.toInt.toNat + 1))]) hX rfl rfl rfl rfl rfl rfl ⟨Nat.le_of_ble_eq_true rfl, Nat.le_of_ble_eq_true rfl⟩ rfl ⟨_, _, rfl⟩ (zsr1 hax (zsi1 (trivial))) (zar1 (zai1 (trivial))) hl.1 (by decide +kernel) rfl (fun H locs hX => ?_)
  refine pv_W hx hb hR 1 681 (zlv b ax am i) [.ref am] rfl hl (fun ls hl => ?_)
  refine zl_arg C (k := 1) (st := [.ref am]) hX hl ⟨hi.1, by have := hi.2; omega⟩ (by decide) rfl rfl (fun ls hl => ?_)
  refine zl_h C (Wm := 404399251429277013207694043648081415021760447048604388265924883382272) (bf := 7) (bl := 160) (77, 0, 166, 1) zM166 [(2, 205), (0, (xs (i.toInt.toNat + 1)).toInt)] (vs := [.ref am, .int (xs (i.toInt.toNat + 1))]) (Eq := fun _ => True) hX (fun μ hT hE => zC_mono (zh_cheaply hK hw (hCt 459 zC459 rfl) (by decide +kernel) (zin32 _) hT (by decide +kernel) (by decide +kernel) ⟨Nat.le_refl _, Nat.le_refl _⟩) (fun st' μ' h => by obtain ⟨x, rfl, -, -, h3⟩ := h; exact ⟨⟨x, rfl⟩, h3, trivial⟩)) (zEQ_fr (by decide +kernel)) rfl rfl rfl rfl ⟨Nat.le_of_ble_eq_true rfl, Nat.le_of_ble_eq_true rfl⟩ (zsr1 ham (zsi1 (trivial))) hl.1 rfl (fun H locs hX => ?_)
  refine pv_W hx hb hR 1 1404 (zlv b ax am i) [] rfl hl (fun ls hl => ?_)
  exact next H locs ls hX hl
set_option maxRecDepth 100000 in
theorem zlk21 (C : zLC D ST b0 l B0 Sg p R s m args meth c b ax am L xs nc ns) (hi : 0 ≤ i.toInt ∧ i.toInt + 6 ≤ L) (hX : zLX D b0 B0 Sg s H locs) (hl : lv_has ls 4 (zlv b ax am i)) (next : ∀ (H2 : Heap) (locs2 : List Loc) (ls2 : Array Slot), zLX D b0 B0 Sg s H2 locs2 → lv_has ls2 4 (zlv b ax am i) → W p l e R s m args below meth c H2 locs2 nc ns Q (F0 m 1404 ls2 [])) : W p l e R s m args below meth c H locs nc ns Q (F0 m 901 ls []) := by
  obtain ⟨hK, hw, -, -, hCt, hF, -, -, hax, ham, -, -⟩ := id C
  obtain ⟨hx, hb, -, -, -⟩ := id hF.1
  have hR := zMk0.1
  refine pv_W hx hb hR 1 902 (zlv b ax am i) [.ref ax] rfl hl (fun ls hl => ?_)
  refine zl_arg C (k := 1) (st := [.ref ax]) hX hl ⟨hi.1, by have := hi.2; omega⟩ (by decide) rfl rfl (fun ls hl => ?_)
  refine zl_arg C (k := 2) (st := [.int (xs (i.toInt.toNat + 1)), .ref ax]) hX hl ⟨hi.1, by have := hi.2; omega⟩ (by decide) rfl rfl (fun ls hl => ?_)
  refine zl_h C (Wm := 1809251394333065553493296640760748560207343510400633813116524750123642650623) (bf := 3) (bl := 65) (104, 0, 84, 2) zM84 [(2, 1), (0, (xs (i.toInt.toNat + 1)).toInt), (0, (xs (i.toInt.toNat + 2)).toInt)] (vs := [.ref ax, .int (xs (i.toInt.toNat + 1)), .int (xs (i.toInt.toNat + 2))]) (Eq := zEQ) hX (fun μ hT hE => zC_mono (zh_errandx hK hT hE.1 (by decide +kernel) (by decide +kernel) (by decide +kernel) (by decide +kernel) ⟨Nat.le_refl _, Nat.le_refl _⟩) (fun st' μ' h => by obtain ⟨x, rfl, -, -, h3, h4, h5⟩ := h; exact ⟨⟨x, rfl⟩, h3, h4, by rw [h5 76 (by decide) (by decide) (by decide) (by decide), h5 78 (by decide) (by decide) (by decide) (by decide)]; exact hE.2⟩)) (fun _ _ _ h _ => h) rfl rfl rfl rfl ⟨Nat.le_of_ble_eq_true rfl, Nat.le_of_ble_eq_true rfl⟩ (zsr1 hax (zsi1 (zsi1 (trivial)))) hl.1 rfl (fun H locs hX => ?_)
  refine pv_W hx hb hR 1 917 (zlv b ax am i) [.ref am] rfl hl (fun ls hl => ?_)
  refine zl_arg C (k := 1) (st := [.ref am]) hX hl ⟨hi.1, by have := hi.2; omega⟩ (by decide) rfl rfl (fun ls hl => ?_)
  refine zl_arg C (k := 2) (st := [.int (xs (i.toInt.toNat + 1)), .ref am]) hX hl ⟨hi.1, by have := hi.2; omega⟩ (by decide) rfl rfl (fun ls hl => ?_)
  refine zl_m C 467 (ct := zC467) (107, 0, 180, 2) zM180 [(2, 205), (0, (xs (i.toInt.toNat + 1)).toInt), (0, (xs (i.toInt.toNat + 2)).toInt)] (vs := [.ref am, .int (xs (i.toInt.toNat + 1)), .int (xs (i.toInt.toNat + 2))]) hX rfl rfl rfl rfl rfl rfl ⟨Nat.le_of_ble_eq_true rfl, Nat.le_of_ble_eq_true rfl⟩ rfl ⟨_, _, rfl⟩ (zsr1 ham (zsi1 (zsi1 (trivial)))) (zar1 (zai1 (zai1 (trivial)))) hl.1 (by decide +kernel) rfl (fun H locs hX => ?_)
  refine pv_W hx hb hR 1 1404 (zlv b ax am i) [] rfl hl (fun ls hl => ?_)
  exact next H locs ls hX hl
set_option maxRecDepth 100000 in
theorem zlk22 (C : zLC D ST b0 l B0 Sg p R s m args meth c b ax am L xs nc ns) (hi : 0 ≤ i.toInt ∧ i.toInt + 6 ≤ L) (hX : zLX D b0 B0 Sg s H locs) (hl : lv_has ls 4 (zlv b ax am i)) (next : ∀ (H2 : Heap) (locs2 : List Loc) (ls2 : Array Slot), zLX D b0 B0 Sg s H2 locs2 → lv_has ls2 4 (zlv b ax am i) → W p l e R s m args below meth c H2 locs2 nc ns Q (F0 m 1404 ls2 [])) : W p l e R s m args below meth c H locs nc ns Q (F0 m 934 ls []) := by
  obtain ⟨hK, hw, -, -, hCt, hF, -, -, hax, ham, -, -⟩ := id C
  obtain ⟨hx, hb, -, -, -⟩ := id hF.1
  have hR := zMk0.1
  refine pv_W hx hb hR 1 935 (zlv b ax am i) [.ref ax] rfl hl (fun ls hl => ?_)
  refine zl_arg C (k := 1) (st := [.ref ax]) hX hl ⟨hi.1, by have := hi.2; omega⟩ (by decide) rfl rfl (fun ls hl => ?_)
  refine zl_h C (Wm := 38566513062215766613007090216187902460532871850787028047233024) (bf := 2) (bl := 51) (108, 0, 85, 1) zM85 [(2, 1), (0, (xs (i.toInt.toNat + 1)).toInt)] (vs := [.ref ax, .int (xs (i.toInt.toNat + 1))]) (Eq := fun _ => True) hX (fun μ hT hE => zC_mono (zh_served hK hE.1 hT (by decide +kernel) (by decide +kernel) ⟨Nat.le_refl _, Nat.le_refl _⟩) (fun st' μ' h => by obtain ⟨x, rfl, -, -, h3⟩ := h; exact ⟨⟨x, rfl⟩, h3, trivial⟩)) (zEQ_fr (by decide +kernel)) rfl rfl rfl rfl ⟨Nat.le_of_ble_eq_true rfl, Nat.le_of_ble_eq_true rfl⟩ (zsr1 hax (zsi1 (trivial))) hl.1 rfl (fun H locs hX => ?_)
  refine pv_W hx hb hR 1 945 (zlv b ax am i) [.ref am] rfl hl (fun ls hl => ?_)
  refine zl_arg C (k := 1) (st := [.ref am]) hX hl ⟨hi.1, by have := hi.2; omega⟩ (by decide) rfl rfl (fun ls hl => ?_)
  refine zl_m C 470 (ct := zC470) (111, 0, 181, 1) zM181 [(2, 205), (0, (xs (i.toInt.toNat + 1)).toInt)] (vs := [.ref am, .int (xs (i.toInt.toNat + 1))]) hX rfl rfl rfl rfl rfl rfl ⟨Nat.le_of_ble_eq_true rfl, Nat.le_of_ble_eq_true rfl⟩ rfl ⟨_, _, rfl⟩ (zsr1 ham (zsi1 (trivial))) (zar1 (zai1 (trivial))) hl.1 (by decide +kernel) rfl (fun H locs hX => ?_)
  refine pv_W hx hb hR 1 1404 (zlv b ax am i) [] rfl hl (fun ls hl => ?_)
  exact next H locs ls hX hl
set_option maxRecDepth 100000 in
theorem zlk38 (C : zLC D ST b0 l B0 Sg p R s m args meth c b ax am L xs nc ns) (hi : 0 ≤ i.toInt ∧ i.toInt + 6 ≤ L) (hX : zLX D b0 B0 Sg s H locs) (hl : lv_has ls 4 (zlv b ax am i)) (next : ∀ (H2 : Heap) (locs2 : List Loc) (ls2 : Array Slot), zLX D b0 B0 Sg s H2 locs2 → lv_has ls2 4 (zlv b ax am i) → W p l e R s m args below meth c H2 locs2 nc ns Q (F0 m 1404 ls2 [])) : W p l e R s m args below meth c H locs nc ns Q (F0 m 1342 ls []) := by
  obtain ⟨hK, hw, -, -, hCt, hF, -, -, hax, ham, -, -⟩ := id C
  obtain ⟨hx, hb, -, -, -⟩ := id hF.1
  have hR := zMk0.1
  have e0 : (Int32.ofInt 0).toInt = 0 := by decide
  have e1 : (Int32.ofInt 1).toInt = 1 := by decide
  have k2 : ∀ (y : Int32) (H : Heap) (locs : List Loc) (ls : Array Slot), 0 ≤ y.toInt ∧ y.toInt ≤ 1 → zLX D b0 B0 Sg s H locs → lv_has ls 4 (zlv b ax am i) → W p l e R s m args below meth c H locs nc ns Q (F0 m 1374 ls [.int y, .ref am]) := by
    intro y H locs ls hy hX hl
    refine zl_m C 493 (ct := zC493) (178, 0, 203, 1) zM203 [(2, 205), (0, y.toInt)] (vs := [.ref am, .int y]) hX rfl rfl rfl rfl rfl rfl ⟨Nat.le_of_ble_eq_true rfl, Nat.le_of_ble_eq_true rfl⟩ rfl ⟨_, _, rfl⟩ (zsr1 ham (zsi1 (trivial))) (zar1 ⟨rfl, fun _ => hy, fun h => (by cases h), trivial⟩) hl.1 (by decide +kernel) rfl (fun H locs hX => ?_)
    refine pv_W hx hb hR 1 1404 (zlv b ax am i) [] rfl hl (fun ls hl => ?_)
    exact next H locs ls hX hl
  have k1 : ∀ (y : Int32) (H : Heap) (locs : List Loc) (ls : Array Slot), zLX D b0 B0 Sg s H locs → lv_has ls 4 (zlv b ax am i) → W p l e R s m args below meth c H locs nc ns Q (F0 m 1356 ls [.int y, .ref ax]) := by
    intro y H locs ls hX hl
    refine zl_h C (Wm := 1809251394333065553493296640760748560207343510400633813116524750123642650623) (bf := 4) (bl := 143) (174, 0, 119, 1) zM119 [(2, 1), (0, (y).toInt)] (vs := [.ref ax, .int (y)]) (Eq := zEQ) hX (fun μ hT hE => zC_mono (zh_imagex hK hw (hCt 184 zC184 rfl) (by decide +kernel) (hCt 210 zC210 rfl) (by decide +kernel) (hCt 211 zC211 rfl) (by decide +kernel) (hCt 222 zC222 rfl) (by decide +kernel) (hCt 223 zC223 rfl) (by decide +kernel) (hCt 228 zC228 rfl) (by decide +kernel) (hCt 239 zC239 rfl) (by decide +kernel) (hCt 240 zC240 rfl) (by decide +kernel) (hCt 326 zC326 rfl) (by decide +kernel) (hCt 327 zC327 rfl) (by decide +kernel) (hCt 328 zC328 rfl) (by decide +kernel) (hCt 329 zC329 rfl) (by decide +kernel) (hCt 330 zC330 rfl) (by decide +kernel) (hCt 331 zC331 rfl) (by decide +kernel) (hCt 332 zC332 rfl) (by decide +kernel) (hCt 333 zC333 rfl) (by decide +kernel) (hCt 401 zC401 rfl) (by decide +kernel) (hCt 402 zC402 rfl) (by decide +kernel) (hCt 405 zC405 rfl) (by decide +kernel) (hCt 406 zC406 rfl) (by decide +kernel) (hCt 407 zC407 rfl) (by decide +kernel) (hCt 408 zC408 rfl) (by decide +kernel) (hCt 410 zC410 rfl) (by decide +kernel) (hCt 411 zC411 rfl) (by decide +kernel) (hCt 414 zC414 rfl) (by decide +kernel) (hCt 415 zC415 rfl) (by decide +kernel) (hCt 416 zC416 rfl) (by decide +kernel) (hCt 417 zC417 rfl) (by decide +kernel) hT hE.1 hE.2 (by decide +kernel) (by decide +kernel) (by decide +kernel) (by decide +kernel) (by decide +kernel) (by decide +kernel) (by decide +kernel) (by decide +kernel) ⟨Nat.le_refl _, Nat.le_refl _⟩) (fun st' μ' h => by obtain ⟨x, rfl, -, -, h3, h4, h5⟩ := h; exact ⟨⟨x, rfl⟩, h3, h4, h5⟩)) (fun _ _ _ h _ => h) rfl rfl rfl rfl ⟨Nat.le_of_ble_eq_true rfl, Nat.le_of_ble_eq_true rfl⟩ (zsr1 hax (zsi1 (trivial))) hl.1 rfl (fun H locs hX => ?_)
    refine pv_W hx hb hR 1 1361 (zlv b ax am i) [.ref am] rfl hl (fun ls hl => ?_)
    refine zl_arg C (k := 1) (st := [.ref am]) hX hl ⟨hi.1, by have := hi.2; omega⟩ (by decide) rfl rfl (fun ls hl => ?_)
    refine pv_if hF.1 hR .eq 7 1373 rfl rfl (fun _ => ?_) (fun _ => ?_)
    · refine pv_W hx hb hR 1 1374 (zlv b ax am i) [.int (Int32.ofInt 0), .ref am] rfl hl (fun ls hl => ?_)
      exact k2 _ H locs ls (by omega) hX hl
    · refine pv_W hx hb hR 2 1374 (zlv b ax am i) [.int (Int32.ofInt 1), .ref am] rfl hl (fun ls hl => ?_)
      exact k2 _ H locs ls (by omega) hX hl
  refine pv_W hx hb hR 1 1343 (zlv b ax am i) [.ref ax] rfl hl (fun ls hl => ?_)
  refine zl_arg C (k := 1) (st := [.ref ax]) hX hl ⟨hi.1, by have := hi.2; omega⟩ (by decide) rfl rfl (fun ls hl => ?_)
  refine pv_if hF.1 hR .eq 7 1355 rfl rfl (fun _ => ?_) (fun _ => ?_)
  · refine pv_W hx hb hR 1 1356 (zlv b ax am i) [.int (Int32.ofInt 0), .ref ax] rfl hl (fun ls hl => ?_)
    exact k1 _ H locs ls hX hl
  · refine pv_W hx hb hR 2 1356 (zlv b ax am i) [.int (Int32.ofInt 1), .ref ax] rfl hl (fun ls hl => ?_)
    exact k1 _ H locs ls hX hl
end LK2
