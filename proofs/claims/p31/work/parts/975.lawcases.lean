/-! the law's cases, by contract (printed by wip/p30/mk975.py) -/
section LK
variable {D : va_G} {ST : List (String × String × String × Nat)} {b0 : sx_B} {l : Launch} {B0 : Nat → Prop} {Sg : Nat → Option Nat} {p : Program} {e : Env} {R : Room} {s : State} {m : MethodId} {args : Array Value} {below : List Frame} {meth : Method} {c : Code} {b ax am L : Nat} {xs : Nat → Int32} {nc ns : Nat} {Q : State → Prop} {H : Heap} {locs : List Loc} {ls : Array Slot} {i : Int32}

set_option maxRecDepth 100000 in
theorem zlk0 (C : zLC D ST b0 l B0 Sg p R s m args meth c b ax am L xs nc ns) (hi : 0 ≤ i.toInt ∧ i.toInt + 6 ≤ L) (hX : zLX D b0 B0 Sg s H locs) (hl : lv_has ls 4 (zlv b ax am i)) (next : ∀ (H2 : Heap) (locs2 : List Loc) (ls2 : Array Slot), zLX D b0 B0 Sg s H2 locs2 → lv_has ls2 4 (zlv b ax am i) → W p l e R s m args below meth c H2 locs2 nc ns Q (F0 m 1404 ls2 [])) : W p l e R s m args below meth c H locs nc ns Q (F0 m 208 ls []) := by
  obtain ⟨-, -, -, -, -, hF, -, -, hax, ham, -, -⟩ := id C
  obtain ⟨hx, hb, -, -, -⟩ := id hF.1
  have hR := zMk0.1
  refine pv_W hx hb hR 1 209 (zlv b ax am i) [.ref ax] rfl hl (fun ls hl => ?_)
  refine zl_arg C (k := 1) (st := [.ref ax]) hX hl ⟨hi.1, by have := hi.2; omega⟩ (by decide) rfl rfl (fun ls hl => ?_)
  refine zl_m C 0 (ct := zC0) (13, 0, 13, 1) zM13 [(2, 1), (0, (xs (i.toInt.toNat + 1)).toInt)] (vs := [.ref ax, .int (xs (i.toInt.toNat + 1))]) hX rfl rfl rfl rfl rfl rfl ⟨Nat.le_of_ble_eq_true rfl, Nat.le_of_ble_eq_true rfl⟩ rfl ⟨_, _, rfl⟩ (zsr1 hax (zsi1 (trivial))) (zar1 (zai1 (trivial))) hl.1 (by decide +kernel) rfl (fun H locs hX => ?_)
  refine pv_W hx hb hR 1 219 (zlv b ax am i) [.ref am] rfl hl (fun ls hl => ?_)
  refine zl_arg C (k := 1) (st := [.ref am]) hX hl ⟨hi.1, by have := hi.2; omega⟩ (by decide) rfl rfl (fun ls hl => ?_)
  refine zl_m C 424 (ct := zC424) (17, 0, 127, 1) zM127 [(2, 205), (0, (xs (i.toInt.toNat + 1)).toInt)] (vs := [.ref am, .int (xs (i.toInt.toNat + 1))]) hX rfl rfl rfl rfl rfl rfl ⟨Nat.le_of_ble_eq_true rfl, Nat.le_of_ble_eq_true rfl⟩ rfl ⟨_, _, rfl⟩ (zsr1 ham (zsi1 (trivial))) (zar1 (zai1 (trivial))) hl.1 (by decide +kernel) rfl (fun H locs hX => ?_)
  refine pv_W hx hb hR 1 1404 (zlv b ax am i) [] rfl hl (fun ls hl => ?_)
  exact next H locs ls hX hl
set_option maxRecDepth 100000 in
theorem zlk1 (C : zLC D ST b0 l B0 Sg p R s m args meth c b ax am L xs nc ns) (hi : 0 ≤ i.toInt ∧ i.toInt + 6 ≤ L) (hX : zLX D b0 B0 Sg s H locs) (hl : lv_has ls 4 (zlv b ax am i)) (next : ∀ (H2 : Heap) (locs2 : List Loc) (ls2 : Array Slot), zLX D b0 B0 Sg s H2 locs2 → lv_has ls2 4 (zlv b ax am i) → W p l e R s m args below meth c H2 locs2 nc ns Q (F0 m 1404 ls2 [])) : W p l e R s m args below meth c H locs nc ns Q (F0 m 231 ls []) := by
  obtain ⟨-, -, -, -, -, hF, -, -, hax, ham, -, -⟩ := id C
  obtain ⟨hx, hb, -, -, -⟩ := id hF.1
  have hR := zMk0.1
  refine pv_W hx hb hR 1 232 (zlv b ax am i) [.ref ax] rfl hl (fun ls hl => ?_)
  refine zl_arg C (k := 1) (st := [.ref ax]) hX hl ⟨hi.1, by have := hi.2; omega⟩ (by decide) rfl rfl (fun ls hl => ?_)
  refine zl_arg C (k := 2) (st := [.int (xs (i.toInt.toNat + 1)), .ref ax]) hX hl ⟨hi.1, by have := hi.2; omega⟩ (by decide) rfl rfl (fun ls hl => ?_)
  refine zl_m C 1 (ct := zC1) (18, 0, 15, 2) zM15 [(2, 1), (0, (xs (i.toInt.toNat + 1)).toInt), (0, (xs (i.toInt.toNat + 2)).toInt)] (vs := [.ref ax, .int (xs (i.toInt.toNat + 1)), .int (xs (i.toInt.toNat + 2))]) hX rfl rfl rfl rfl rfl rfl ⟨Nat.le_of_ble_eq_true rfl, Nat.le_of_ble_eq_true rfl⟩ rfl ⟨_, _, rfl⟩ (zsr1 hax (zsi1 (zsi1 (trivial)))) (zar1 (zai1 (zai1 (trivial)))) hl.1 (by decide +kernel) rfl (fun H locs hX => ?_)
  refine pv_W hx hb hR 1 247 (zlv b ax am i) [.ref am] rfl hl (fun ls hl => ?_)
  refine zl_arg C (k := 1) (st := [.ref am]) hX hl ⟨hi.1, by have := hi.2; omega⟩ (by decide) rfl rfl (fun ls hl => ?_)
  refine zl_arg C (k := 2) (st := [.int (xs (i.toInt.toNat + 1)), .ref am]) hX hl ⟨hi.1, by have := hi.2; omega⟩ (by decide) rfl rfl (fun ls hl => ?_)
  refine zl_m C 425 (ct := zC425) (22, 0, 128, 2) zM128 [(2, 205), (0, (xs (i.toInt.toNat + 1)).toInt), (0, (xs (i.toInt.toNat + 2)).toInt)] (vs := [.ref am, .int (xs (i.toInt.toNat + 1)), .int (xs (i.toInt.toNat + 2))]) hX rfl rfl rfl rfl rfl rfl ⟨Nat.le_of_ble_eq_true rfl, Nat.le_of_ble_eq_true rfl⟩ rfl ⟨_, _, rfl⟩ (zsr1 ham (zsi1 (zsi1 (trivial)))) (zar1 (zai1 (zai1 (trivial)))) hl.1 (by decide +kernel) rfl (fun H locs hX => ?_)
  refine pv_W hx hb hR 1 1404 (zlv b ax am i) [] rfl hl (fun ls hl => ?_)
  exact next H locs ls hX hl
set_option maxRecDepth 100000 in
theorem zlk2 (C : zLC D ST b0 l B0 Sg p R s m args meth c b ax am L xs nc ns) (hi : 0 ≤ i.toInt ∧ i.toInt + 6 ≤ L) (hX : zLX D b0 B0 Sg s H locs) (hl : lv_has ls 4 (zlv b ax am i)) (next : ∀ (H2 : Heap) (locs2 : List Loc) (ls2 : Array Slot), zLX D b0 B0 Sg s H2 locs2 → lv_has ls2 4 (zlv b ax am i) → W p l e R s m args below meth c H2 locs2 nc ns Q (F0 m 1404 ls2 [])) : W p l e R s m args below meth c H locs nc ns Q (F0 m 264 ls []) := by
  obtain ⟨-, -, -, -, -, hF, -, -, hax, ham, -, -⟩ := id C
  obtain ⟨hx, hb, -, -, -⟩ := id hF.1
  have hR := zMk0.1
  refine pv_W hx hb hR 1 265 (zlv b ax am i) [.ref ax] rfl hl (fun ls hl => ?_)
  refine zl_arg C (k := 1) (st := [.ref ax]) hX hl ⟨hi.1, by have := hi.2; omega⟩ (by decide) rfl rfl (fun ls hl => ?_)
  refine zl_arg C (k := 2) (st := [.int (xs (i.toInt.toNat + 1)), .ref ax]) hX hl ⟨hi.1, by have := hi.2; omega⟩ (by decide) rfl rfl (fun ls hl => ?_)
  refine zl_m C 2 (ct := zC2) (23, 0, 19, 2) zM19 [(2, 1), (0, (xs (i.toInt.toNat + 1)).toInt), (0, (xs (i.toInt.toNat + 2)).toInt)] (vs := [.ref ax, .int (xs (i.toInt.toNat + 1)), .int (xs (i.toInt.toNat + 2))]) hX rfl rfl rfl rfl rfl rfl ⟨Nat.le_of_ble_eq_true rfl, Nat.le_of_ble_eq_true rfl⟩ rfl ⟨_, _, rfl⟩ (zsr1 hax (zsi1 (zsi1 (trivial)))) (zar1 (zai1 (zai1 (trivial)))) hl.1 (by decide +kernel) rfl (fun H locs hX => ?_)
  refine pv_W hx hb hR 1 280 (zlv b ax am i) [.ref am] rfl hl (fun ls hl => ?_)
  refine zl_arg C (k := 1) (st := [.ref am]) hX hl ⟨hi.1, by have := hi.2; omega⟩ (by decide) rfl rfl (fun ls hl => ?_)
  refine zl_arg C (k := 2) (st := [.int (xs (i.toInt.toNat + 1)), .ref am]) hX hl ⟨hi.1, by have := hi.2; omega⟩ (by decide) rfl rfl (fun ls hl => ?_)
  refine zl_m C 426 (ct := zC426) (26, 0, 130, 2) zM130 [(2, 205), (0, (xs (i.toInt.toNat + 1)).toInt), (0, (xs (i.toInt.toNat + 2)).toInt)] (vs := [.ref am, .int (xs (i.toInt.toNat + 1)), .int (xs (i.toInt.toNat + 2))]) hX rfl rfl rfl rfl rfl rfl ⟨Nat.le_of_ble_eq_true rfl, Nat.le_of_ble_eq_true rfl⟩ rfl ⟨_, _, rfl⟩ (zsr1 ham (zsi1 (zsi1 (trivial)))) (zar1 (zai1 (zai1 (trivial)))) hl.1 (by decide +kernel) rfl (fun H locs hX => ?_)
  refine pv_W hx hb hR 1 1404 (zlv b ax am i) [] rfl hl (fun ls hl => ?_)
  exact next H locs ls hX hl
set_option maxRecDepth 100000 in
theorem zlk3 (C : zLC D ST b0 l B0 Sg p R s m args meth c b ax am L xs nc ns) (hi : 0 ≤ i.toInt ∧ i.toInt + 6 ≤ L) (hX : zLX D b0 B0 Sg s H locs) (hl : lv_has ls 4 (zlv b ax am i)) (next : ∀ (H2 : Heap) (locs2 : List Loc) (ls2 : Array Slot), zLX D b0 B0 Sg s H2 locs2 → lv_has ls2 4 (zlv b ax am i) → W p l e R s m args below meth c H2 locs2 nc ns Q (F0 m 1404 ls2 [])) : W p l e R s m args below meth c H locs nc ns Q (F0 m 297 ls []) := by
  obtain ⟨-, -, -, -, -, hF, -, -, hax, ham, -, -⟩ := id C
  obtain ⟨hx, hb, -, -, -⟩ := id hF.1
  have hR := zMk0.1
  refine pv_W hx hb hR 1 298 (zlv b ax am i) [.ref ax] rfl hl (fun ls hl => ?_)
  refine zl_arg C (k := 1) (st := [.ref ax]) hX hl ⟨hi.1, by have := hi.2; omega⟩ (by decide) rfl rfl (fun ls hl => ?_)
  refine zl_arg C (k := 2) (st := [.int (xs (i.toInt.toNat + 1)), .ref ax]) hX hl ⟨hi.1, by have := hi.2; omega⟩ (by decide) rfl rfl (fun ls hl => ?_)
  refine zl_arg C (k := 3) (st := [.int (xs (i.toInt.toNat + 2)), .int (xs (i.toInt.toNat + 1)), .ref ax]) hX hl ⟨hi.1, by have := hi.2; omega⟩ (by decide) rfl rfl (fun ls hl => ?_)
  refine zl_m C 3 (ct := zC3) (27, 0, 21, 3) zM21 [(2, 1), (0, (xs (i.toInt.toNat + 1)).toInt), (0, (xs (i.toInt.toNat + 2)).toInt), (0, (xs (i.toInt.toNat + 3)).toInt)] (vs := [.ref ax, .int (xs (i.toInt.toNat + 1)), .int (xs (i.toInt.toNat + 2)), .int (xs (i.toInt.toNat + 3))]) hX rfl rfl rfl rfl rfl rfl ⟨Nat.le_of_ble_eq_true rfl, Nat.le_of_ble_eq_true rfl⟩ rfl ⟨_, _, rfl⟩ (zsr1 hax (zsi1 (zsi1 (zsi1 (trivial))))) (zar1 (zai1 (zai1 (zai1 (trivial))))) hl.1 (by decide +kernel) rfl (fun H locs hX => ?_)
  refine pv_W hx hb hR 1 318 (zlv b ax am i) [.ref am] rfl hl (fun ls hl => ?_)
  refine zl_arg C (k := 1) (st := [.ref am]) hX hl ⟨hi.1, by have := hi.2; omega⟩ (by decide) rfl rfl (fun ls hl => ?_)
  refine zl_arg C (k := 2) (st := [.int (xs (i.toInt.toNat + 1)), .ref am]) hX hl ⟨hi.1, by have := hi.2; omega⟩ (by decide) rfl rfl (fun ls hl => ?_)
  refine zl_arg C (k := 3) (st := [.int (xs (i.toInt.toNat + 2)), .int (xs (i.toInt.toNat + 1)), .ref am]) hX hl ⟨hi.1, by have := hi.2; omega⟩ (by decide) rfl rfl (fun ls hl => ?_)
  refine zl_m C 427 (ct := zC427) (31, 0, 131, 3) zM131 [(2, 205), (0, (xs (i.toInt.toNat + 1)).toInt), (0, (xs (i.toInt.toNat + 2)).toInt), (0, (xs (i.toInt.toNat + 3)).toInt)] (vs := [.ref am, .int (xs (i.toInt.toNat + 1)), .int (xs (i.toInt.toNat + 2)), .int (xs (i.toInt.toNat + 3))]) hX rfl rfl rfl rfl rfl rfl ⟨Nat.le_of_ble_eq_true rfl, Nat.le_of_ble_eq_true rfl⟩ rfl ⟨_, _, rfl⟩ (zsr1 ham (zsi1 (zsi1 (zsi1 (trivial))))) (zar1 (zai1 (zai1 (zai1 (trivial))))) hl.1 (by decide +kernel) rfl (fun H locs hX => ?_)
  refine pv_W hx hb hR 1 1404 (zlv b ax am i) [] rfl hl (fun ls hl => ?_)
  exact next H locs ls hX hl
set_option maxRecDepth 100000 in
theorem zlk4 (C : zLC D ST b0 l B0 Sg p R s m args meth c b ax am L xs nc ns) (hi : 0 ≤ i.toInt ∧ i.toInt + 6 ≤ L) (hX : zLX D b0 B0 Sg s H locs) (hl : lv_has ls 4 (zlv b ax am i)) (next : ∀ (H2 : Heap) (locs2 : List Loc) (ls2 : Array Slot), zLX D b0 B0 Sg s H2 locs2 → lv_has ls2 4 (zlv b ax am i) → W p l e R s m args below meth c H2 locs2 nc ns Q (F0 m 1404 ls2 [])) : W p l e R s m args below meth c H locs nc ns Q (F0 m 340 ls []) := by
  obtain ⟨-, -, -, -, -, hF, -, -, hax, ham, -, -⟩ := id C
  obtain ⟨hx, hb, -, -, -⟩ := id hF.1
  have hR := zMk0.1
  refine pv_W hx hb hR 1 341 (zlv b ax am i) [.ref ax] rfl hl (fun ls hl => ?_)
  refine zl_arg C (k := 1) (st := [.ref ax]) hX hl ⟨hi.1, by have := hi.2; omega⟩ (by decide) rfl rfl (fun ls hl => ?_)
  refine zl_arg C (k := 2) (st := [.int (xs (i.toInt.toNat + 1)), .ref ax]) hX hl ⟨hi.1, by have := hi.2; omega⟩ (by decide) rfl rfl (fun ls hl => ?_)
  refine zl_arg C (k := 3) (st := [.int (xs (i.toInt.toNat + 2)), .int (xs (i.toInt.toNat + 1)), .ref ax]) hX hl ⟨hi.1, by have := hi.2; omega⟩ (by decide) rfl rfl (fun ls hl => ?_)
  refine zl_m C 93 (ct := zC93) (32, 0, 24, 3) zM24 [(2, 1), (0, (xs (i.toInt.toNat + 1)).toInt), (0, (xs (i.toInt.toNat + 2)).toInt), (0, (xs (i.toInt.toNat + 3)).toInt)] (vs := [.ref ax, .int (xs (i.toInt.toNat + 1)), .int (xs (i.toInt.toNat + 2)), .int (xs (i.toInt.toNat + 3))]) hX rfl rfl rfl rfl rfl rfl ⟨Nat.le_of_ble_eq_true rfl, Nat.le_of_ble_eq_true rfl⟩ rfl ⟨_, _, rfl⟩ (zsr1 hax (zsi1 (zsi1 (zsi1 (trivial))))) (zar1 (zai1 (zai1 (zai1 (trivial))))) hl.1 (by decide +kernel) rfl (fun H locs hX => ?_)
  refine pv_W hx hb hR 1 361 (zlv b ax am i) [.ref am] rfl hl (fun ls hl => ?_)
  refine zl_arg C (k := 1) (st := [.ref am]) hX hl ⟨hi.1, by have := hi.2; omega⟩ (by decide) rfl rfl (fun ls hl => ?_)
  refine zl_arg C (k := 2) (st := [.int (xs (i.toInt.toNat + 1)), .ref am]) hX hl ⟨hi.1, by have := hi.2; omega⟩ (by decide) rfl rfl (fun ls hl => ?_)
  refine zl_arg C (k := 3) (st := [.int (xs (i.toInt.toNat + 2)), .int (xs (i.toInt.toNat + 1)), .ref am]) hX hl ⟨hi.1, by have := hi.2; omega⟩ (by decide) rfl rfl (fun ls hl => ?_)
  refine zl_m C 442 (ct := zC442) (35, 0, 150, 3) zM150 [(2, 205), (0, (xs (i.toInt.toNat + 1)).toInt), (0, (xs (i.toInt.toNat + 2)).toInt), (0, (xs (i.toInt.toNat + 3)).toInt)] (vs := [.ref am, .int (xs (i.toInt.toNat + 1)), .int (xs (i.toInt.toNat + 2)), .int (xs (i.toInt.toNat + 3))]) hX rfl rfl rfl rfl rfl rfl ⟨Nat.le_of_ble_eq_true rfl, Nat.le_of_ble_eq_true rfl⟩ rfl ⟨_, _, rfl⟩ (zsr1 ham (zsi1 (zsi1 (zsi1 (trivial))))) (zar1 (zai1 (zai1 (zai1 (trivial))))) hl.1 (by decide +kernel) rfl (fun H locs hX => ?_)
  refine pv_W hx hb hR 1 1404 (zlv b ax am i) [] rfl hl (fun ls hl => ?_)
  exact next H locs ls hX hl
set_option maxRecDepth 100000 in
theorem zlk5 (C : zLC D ST b0 l B0 Sg p R s m args meth c b ax am L xs nc ns) (hi : 0 ≤ i.toInt ∧ i.toInt + 6 ≤ L) (hX : zLX D b0 B0 Sg s H locs) (hl : lv_has ls 4 (zlv b ax am i)) (next : ∀ (H2 : Heap) (locs2 : List Loc) (ls2 : Array Slot), zLX D b0 B0 Sg s H2 locs2 → lv_has ls2 4 (zlv b ax am i) → W p l e R s m args below meth c H2 locs2 nc ns Q (F0 m 1404 ls2 [])) : W p l e R s m args below meth c H locs nc ns Q (F0 m 383 ls []) := by
  obtain ⟨-, -, -, -, -, hF, -, -, hax, ham, -, -⟩ := id C
  obtain ⟨hx, hb, -, -, -⟩ := id hF.1
  have hR := zMk0.1
  refine pv_W hx hb hR 1 384 (zlv b ax am i) [.ref ax] rfl hl (fun ls hl => ?_)
  refine zl_arg C (k := 1) (st := [.ref ax]) hX hl ⟨hi.1, by have := hi.2; omega⟩ (by decide) rfl rfl (fun ls hl => ?_)
  refine zl_m C 261 (ct := zC261) (36, 0, 36, 1) zM36 [(2, 1), (0, (xs (i.toInt.toNat + 1)).toInt)] (vs := [.ref ax, .int (xs (i.toInt.toNat + 1))]) hX rfl rfl rfl rfl rfl rfl ⟨Nat.le_of_ble_eq_true rfl, Nat.le_of_ble_eq_true rfl⟩ rfl ⟨_, _, rfl⟩ (zsr1 hax (zsi1 (trivial))) (zar1 (zai1 (trivial))) hl.1 (by decide +kernel) rfl (fun H locs hX => ?_)
  refine pv_W hx hb hR 1 394 (zlv b ax am i) [.ref am] rfl hl (fun ls hl => ?_)
  refine zl_arg C (k := 1) (st := [.ref am]) hX hl ⟨hi.1, by have := hi.2; omega⟩ (by decide) rfl rfl (fun ls hl => ?_)
  refine zl_m C 450 (ct := zC450) (39, 0, 154, 1) zM154 [(2, 205), (0, (xs (i.toInt.toNat + 1)).toInt)] (vs := [.ref am, .int (xs (i.toInt.toNat + 1))]) hX rfl rfl rfl rfl rfl rfl ⟨Nat.le_of_ble_eq_true rfl, Nat.le_of_ble_eq_true rfl⟩ rfl ⟨_, _, rfl⟩ (zsr1 ham (zsi1 (trivial))) (zar1 (zai1 (trivial))) hl.1 (by decide +kernel) rfl (fun H locs hX => ?_)
  refine pv_W hx hb hR 1 1404 (zlv b ax am i) [] rfl hl (fun ls hl => ?_)
  exact next H locs ls hX hl
set_option maxRecDepth 100000 in
theorem zlk6 (C : zLC D ST b0 l B0 Sg p R s m args meth c b ax am L xs nc ns) (hi : 0 ≤ i.toInt ∧ i.toInt + 6 ≤ L) (hX : zLX D b0 B0 Sg s H locs) (hl : lv_has ls 4 (zlv b ax am i)) (next : ∀ (H2 : Heap) (locs2 : List Loc) (ls2 : Array Slot), zLX D b0 B0 Sg s H2 locs2 → lv_has ls2 4 (zlv b ax am i) → W p l e R s m args below meth c H2 locs2 nc ns Q (F0 m 1404 ls2 [])) : W p l e R s m args below meth c H locs nc ns Q (F0 m 406 ls []) := by
  obtain ⟨-, -, -, -, -, hF, -, -, hax, ham, -, -⟩ := id C
  obtain ⟨hx, hb, -, -, -⟩ := id hF.1
  have hR := zMk0.1
  refine pv_W hx hb hR 1 407 (zlv b ax am i) [.ref ax] rfl hl (fun ls hl => ?_)
  refine zl_arg C (k := 1) (st := [.ref ax]) hX hl ⟨hi.1, by have := hi.2; omega⟩ (by decide) rfl rfl (fun ls hl => ?_)
  refine zl_arg C (k := 2) (st := [.int (xs (i.toInt.toNat + 1)), .ref ax]) hX hl ⟨hi.1, by have := hi.2; omega⟩ (by decide) rfl rfl (fun ls hl => ?_)
  refine zl_arg C (k := 3) (st := [.int (xs (i.toInt.toNat + 2)), .int (xs (i.toInt.toNat + 1)), .ref ax]) hX hl ⟨hi.1, by have := hi.2; omega⟩ (by decide) rfl rfl (fun ls hl => ?_)
  refine zl_arg C (k := 4) (st := [.int (xs (i.toInt.toNat + 3)), .int (xs (i.toInt.toNat + 2)), .int (xs (i.toInt.toNat + 1)), .ref ax]) hX hl ⟨hi.1, by have := hi.2; omega⟩ (by decide) rfl rfl (fun ls hl => ?_)
  refine zl_arg C (k := 5) (st := [.int (xs (i.toInt.toNat + 4)), .int (xs (i.toInt.toNat + 3)), .int (xs (i.toInt.toNat + 2)), .int (xs (i.toInt.toNat + 1)), .ref ax]) hX hl ⟨hi.1, by have := hi.2; omega⟩ (by decide) rfl rfl (fun ls hl => ?_)
  refine zl_m C 275 (ct := zC275) (40, 0, 42, 5) zM42 [(2, 1), (0, (xs (i.toInt.toNat + 1)).toInt), (0, (xs (i.toInt.toNat + 2)).toInt), (0, (xs (i.toInt.toNat + 3)).toInt), (0, (xs (i.toInt.toNat + 4)).toInt), (0, (xs (i.toInt.toNat + 5)).toInt)] (vs := [.ref ax, .int (xs (i.toInt.toNat + 1)), .int (xs (i.toInt.toNat + 2)), .int (xs (i.toInt.toNat + 3)), .int (xs (i.toInt.toNat + 4)), .int (xs (i.toInt.toNat + 5))]) hX rfl rfl rfl rfl rfl rfl ⟨Nat.le_of_ble_eq_true rfl, Nat.le_of_ble_eq_true rfl⟩ rfl ⟨_, _, rfl⟩ (zsr1 hax (zsi1 (zsi1 (zsi1 (zsi1 (zsi1 (trivial))))))) (zar1 (zai1 (zai1 (zai1 (zai1 (zai1 (trivial))))))) hl.1 (by decide +kernel) rfl (fun H locs hX => ?_)
  refine pv_W hx hb hR 1 437 (zlv b ax am i) [.ref am] rfl hl (fun ls hl => ?_)
  refine zl_arg C (k := 1) (st := [.ref am]) hX hl ⟨hi.1, by have := hi.2; omega⟩ (by decide) rfl rfl (fun ls hl => ?_)
  refine zl_arg C (k := 2) (st := [.int (xs (i.toInt.toNat + 1)), .ref am]) hX hl ⟨hi.1, by have := hi.2; omega⟩ (by decide) rfl rfl (fun ls hl => ?_)
  refine zl_arg C (k := 3) (st := [.int (xs (i.toInt.toNat + 2)), .int (xs (i.toInt.toNat + 1)), .ref am]) hX hl ⟨hi.1, by have := hi.2; omega⟩ (by decide) rfl rfl (fun ls hl => ?_)
  refine zl_arg C (k := 4) (st := [.int (xs (i.toInt.toNat + 3)), .int (xs (i.toInt.toNat + 2)), .int (xs (i.toInt.toNat + 1)), .ref am]) hX hl ⟨hi.1, by have := hi.2; omega⟩ (by decide) rfl rfl (fun ls hl => ?_)
  refine zl_arg C (k := 5) (st := [.int (xs (i.toInt.toNat + 4)), .int (xs (i.toInt.toNat + 3)), .int (xs (i.toInt.toNat + 2)), .int (xs (i.toInt.toNat + 1)), .ref am]) hX hl ⟨hi.1, by have := hi.2; omega⟩ (by decide) rfl rfl (fun ls hl => ?_)
  refine zl_m C 428 (ct := zC428) (44, 0, 134, 5) zM134 [(2, 205), (0, (xs (i.toInt.toNat + 1)).toInt), (0, (xs (i.toInt.toNat + 2)).toInt), (0, (xs (i.toInt.toNat + 3)).toInt), (0, (xs (i.toInt.toNat + 4)).toInt), (0, (xs (i.toInt.toNat + 5)).toInt)] (vs := [.ref am, .int (xs (i.toInt.toNat + 1)), .int (xs (i.toInt.toNat + 2)), .int (xs (i.toInt.toNat + 3)), .int (xs (i.toInt.toNat + 4)), .int (xs (i.toInt.toNat + 5))]) hX rfl rfl rfl rfl rfl rfl ⟨Nat.le_of_ble_eq_true rfl, Nat.le_of_ble_eq_true rfl⟩ rfl ⟨_, _, rfl⟩ (zsr1 ham (zsi1 (zsi1 (zsi1 (zsi1 (zsi1 (trivial))))))) (zar1 (zai1 (zai1 (zai1 (zai1 (zai1 (trivial))))))) hl.1 (by decide +kernel) rfl (fun H locs hX => ?_)
  refine pv_W hx hb hR 1 1404 (zlv b ax am i) [] rfl hl (fun ls hl => ?_)
  exact next H locs ls hX hl
set_option maxRecDepth 100000 in
theorem zlk7 (C : zLC D ST b0 l B0 Sg p R s m args meth c b ax am L xs nc ns) (hi : 0 ≤ i.toInt ∧ i.toInt + 6 ≤ L) (hX : zLX D b0 B0 Sg s H locs) (hl : lv_has ls 4 (zlv b ax am i)) (next : ∀ (H2 : Heap) (locs2 : List Loc) (ls2 : Array Slot), zLX D b0 B0 Sg s H2 locs2 → lv_has ls2 4 (zlv b ax am i) → W p l e R s m args below meth c H2 locs2 nc ns Q (F0 m 1404 ls2 [])) : W p l e R s m args below meth c H locs nc ns Q (F0 m 469 ls []) := by
  obtain ⟨-, -, -, -, -, hF, -, -, hax, ham, -, -⟩ := id C
  obtain ⟨hx, hb, -, -, -⟩ := id hF.1
  have hR := zMk0.1
  refine pv_W hx hb hR 1 470 (zlv b ax am i) [.ref ax] rfl hl (fun ls hl => ?_)
  refine zl_arg C (k := 1) (st := [.ref ax]) hX hl ⟨hi.1, by have := hi.2; omega⟩ (by decide) rfl rfl (fun ls hl => ?_)
  refine zl_m C 276 (ct := zC276) (45, 0, 45, 1) zM45 [(2, 1), (0, (xs (i.toInt.toNat + 1)).toInt)] (vs := [.ref ax, .int (xs (i.toInt.toNat + 1))]) hX rfl rfl rfl rfl rfl rfl ⟨Nat.le_of_ble_eq_true rfl, Nat.le_of_ble_eq_true rfl⟩ rfl ⟨_, _, rfl⟩ (zsr1 hax (zsi1 (trivial))) (zar1 (zai1 (trivial))) hl.1 (by decide +kernel) rfl (fun H locs hX => ?_)
  refine pv_W hx hb hR 1 480 (zlv b ax am i) [.ref am] rfl hl (fun ls hl => ?_)
  refine zl_arg C (k := 1) (st := [.ref am]) hX hl ⟨hi.1, by have := hi.2; omega⟩ (by decide) rfl rfl (fun ls hl => ?_)
  refine zl_m C 429 (ct := zC429) (49, 0, 136, 1) zM136 [(2, 205), (0, (xs (i.toInt.toNat + 1)).toInt)] (vs := [.ref am, .int (xs (i.toInt.toNat + 1))]) hX rfl rfl rfl rfl rfl rfl ⟨Nat.le_of_ble_eq_true rfl, Nat.le_of_ble_eq_true rfl⟩ rfl ⟨_, _, rfl⟩ (zsr1 ham (zsi1 (trivial))) (zar1 (zai1 (trivial))) hl.1 (by decide +kernel) rfl (fun H locs hX => ?_)
  refine pv_W hx hb hR 1 1404 (zlv b ax am i) [] rfl hl (fun ls hl => ?_)
  exact next H locs ls hX hl
set_option maxRecDepth 100000 in
theorem zlk9 (C : zLC D ST b0 l B0 Sg p R s m args meth c b ax am L xs nc ns) (hi : 0 ≤ i.toInt ∧ i.toInt + 6 ≤ L) (hX : zLX D b0 B0 Sg s H locs) (hl : lv_has ls 4 (zlv b ax am i)) (next : ∀ (H2 : Heap) (locs2 : List Loc) (ls2 : Array Slot), zLX D b0 B0 Sg s H2 locs2 → lv_has ls2 4 (zlv b ax am i) → W p l e R s m args below meth c H2 locs2 nc ns Q (F0 m 1404 ls2 [])) : W p l e R s m args below meth c H locs nc ns Q (F0 m 515 ls []) := by
  obtain ⟨-, -, -, -, -, hF, -, -, hax, ham, -, -⟩ := id C
  obtain ⟨hx, hb, -, -, -⟩ := id hF.1
  have hR := zMk0.1
  refine pv_W hx hb hR 1 516 (zlv b ax am i) [.ref ax] rfl hl (fun ls hl => ?_)
  refine zl_arg C (k := 1) (st := [.ref ax]) hX hl ⟨hi.1, by have := hi.2; omega⟩ (by decide) rfl rfl (fun ls hl => ?_)
  refine zl_m C 334 (ct := zC334) (54, 0, 55, 1) zM55 [(2, 1), (0, (xs (i.toInt.toNat + 1)).toInt)] (vs := [.ref ax, .int (xs (i.toInt.toNat + 1))]) hX rfl rfl rfl rfl rfl rfl ⟨Nat.le_of_ble_eq_true rfl, Nat.le_of_ble_eq_true rfl⟩ rfl ⟨_, _, rfl⟩ (zsr1 hax (zsi1 (trivial))) (zar1 (zai1 (trivial))) hl.1 (by decide +kernel) rfl (fun H locs hX => ?_)
  refine pv_W hx hb hR 1 526 (zlv b ax am i) [.ref am] rfl hl (fun ls hl => ?_)
  refine zl_arg C (k := 1) (st := [.ref am]) hX hl ⟨hi.1, by have := hi.2; omega⟩ (by decide) rfl rfl (fun ls hl => ?_)
  refine zl_m C 434 (ct := zC434) (57, 0, 149, 1) zM149 [(2, 205), (0, (xs (i.toInt.toNat + 1)).toInt)] (vs := [.ref am, .int (xs (i.toInt.toNat + 1))]) hX rfl rfl rfl rfl rfl rfl ⟨Nat.le_of_ble_eq_true rfl, Nat.le_of_ble_eq_true rfl⟩ rfl ⟨_, _, rfl⟩ (zsr1 ham (zsi1 (trivial))) (zar1 (zai1 (trivial))) hl.1 (by decide +kernel) rfl (fun H locs hX => ?_)
  refine pv_W hx hb hR 1 1404 (zlv b ax am i) [] rfl hl (fun ls hl => ?_)
  exact next H locs ls hX hl
set_option maxRecDepth 100000 in
theorem zlk10 (C : zLC D ST b0 l B0 Sg p R s m args meth c b ax am L xs nc ns) (hi : 0 ≤ i.toInt ∧ i.toInt + 6 ≤ L) (hX : zLX D b0 B0 Sg s H locs) (hl : lv_has ls 4 (zlv b ax am i)) (next : ∀ (H2 : Heap) (locs2 : List Loc) (ls2 : Array Slot), zLX D b0 B0 Sg s H2 locs2 → lv_has ls2 4 (zlv b ax am i) → W p l e R s m args below meth c H2 locs2 nc ns Q (F0 m 1404 ls2 [])) : W p l e R s m args below meth c H locs nc ns Q (F0 m 538 ls []) := by
  obtain ⟨-, -, -, -, -, hF, -, -, hax, ham, -, -⟩ := id C
  obtain ⟨hx, hb, -, -, -⟩ := id hF.1
  have hR := zMk0.1
  refine pv_W hx hb hR 1 539 (zlv b ax am i) [.ref ax] rfl hl (fun ls hl => ?_)
  refine zl_arg C (k := 1) (st := [.ref ax]) hX hl ⟨hi.1, by have := hi.2; omega⟩ (by decide) rfl rfl (fun ls hl => ?_)
  refine zl_arg C (k := 2) (st := [.int (xs (i.toInt.toNat + 1)), .ref ax]) hX hl ⟨hi.1, by have := hi.2; omega⟩ (by decide) rfl rfl (fun ls hl => ?_)
  refine zl_m C 336 (ct := zC336) (58, 0, 56, 2) zM56 [(2, 1), (0, (xs (i.toInt.toNat + 1)).toInt), (0, (xs (i.toInt.toNat + 2)).toInt)] (vs := [.ref ax, .int (xs (i.toInt.toNat + 1)), .int (xs (i.toInt.toNat + 2))]) hX rfl rfl rfl rfl rfl rfl ⟨Nat.le_of_ble_eq_true rfl, Nat.le_of_ble_eq_true rfl⟩ rfl ⟨_, _, rfl⟩ (zsr1 hax (zsi1 (zsi1 (trivial)))) (zar1 (zai1 (zai1 (trivial)))) hl.1 (by decide +kernel) rfl (fun H locs hX => ?_)
  refine pv_W hx hb hR 1 554 (zlv b ax am i) [.ref am] rfl hl (fun ls hl => ?_)
  refine zl_arg C (k := 1) (st := [.ref am]) hX hl ⟨hi.1, by have := hi.2; omega⟩ (by decide) rfl rfl (fun ls hl => ?_)
  refine zl_arg C (k := 2) (st := [.int (xs (i.toInt.toNat + 1)), .ref am]) hX hl ⟨hi.1, by have := hi.2; omega⟩ (by decide) rfl rfl (fun ls hl => ?_)
  refine zl_m C 451 (ct := zC451) (61, 0, 159, 2) zM159 [(2, 205), (0, (xs (i.toInt.toNat + 1)).toInt), (0, (xs (i.toInt.toNat + 2)).toInt)] (vs := [.ref am, .int (xs (i.toInt.toNat + 1)), .int (xs (i.toInt.toNat + 2))]) hX rfl rfl rfl rfl rfl rfl ⟨Nat.le_of_ble_eq_true rfl, Nat.le_of_ble_eq_true rfl⟩ rfl ⟨_, _, rfl⟩ (zsr1 ham (zsi1 (zsi1 (trivial)))) (zar1 (zai1 (zai1 (trivial)))) hl.1 (by decide +kernel) rfl (fun H locs hX => ?_)
  refine pv_W hx hb hR 1 1404 (zlv b ax am i) [] rfl hl (fun ls hl => ?_)
  exact next H locs ls hX hl
set_option maxRecDepth 100000 in
theorem zlk11 (C : zLC D ST b0 l B0 Sg p R s m args meth c b ax am L xs nc ns) (hi : 0 ≤ i.toInt ∧ i.toInt + 6 ≤ L) (hX : zLX D b0 B0 Sg s H locs) (hl : lv_has ls 4 (zlv b ax am i)) (next : ∀ (H2 : Heap) (locs2 : List Loc) (ls2 : Array Slot), zLX D b0 B0 Sg s H2 locs2 → lv_has ls2 4 (zlv b ax am i) → W p l e R s m args below meth c H2 locs2 nc ns Q (F0 m 1404 ls2 [])) : W p l e R s m args below meth c H locs nc ns Q (F0 m 571 ls []) := by
  obtain ⟨-, -, -, -, -, hF, -, -, hax, ham, -, -⟩ := id C
  obtain ⟨hx, hb, -, -, -⟩ := id hF.1
  have hR := zMk0.1
  refine pv_W hx hb hR 1 572 (zlv b ax am i) [.ref ax] rfl hl (fun ls hl => ?_)
  refine zl_arg C (k := 1) (st := [.ref ax]) hX hl ⟨hi.1, by have := hi.2; omega⟩ (by decide) rfl rfl (fun ls hl => ?_)
  refine zl_arg C (k := 2) (st := [.int (xs (i.toInt.toNat + 1)), .ref ax]) hX hl ⟨hi.1, by have := hi.2; omega⟩ (by decide) rfl rfl (fun ls hl => ?_)
  refine zl_m C 337 (ct := zC337) (62, 0, 57, 2) zM57 [(2, 1), (0, (xs (i.toInt.toNat + 1)).toInt), (0, (xs (i.toInt.toNat + 2)).toInt)] (vs := [.ref ax, .int (xs (i.toInt.toNat + 1)), .int (xs (i.toInt.toNat + 2))]) hX rfl rfl rfl rfl rfl rfl ⟨Nat.le_of_ble_eq_true rfl, Nat.le_of_ble_eq_true rfl⟩ rfl ⟨_, _, rfl⟩ (zsr1 hax (zsi1 (zsi1 (trivial)))) (zar1 (zai1 (zai1 (trivial)))) hl.1 (by decide +kernel) rfl (fun H locs hX => ?_)
  refine pv_W hx hb hR 1 587 (zlv b ax am i) [.ref am] rfl hl (fun ls hl => ?_)
  refine zl_arg C (k := 1) (st := [.ref am]) hX hl ⟨hi.1, by have := hi.2; omega⟩ (by decide) rfl rfl (fun ls hl => ?_)
  refine zl_arg C (k := 2) (st := [.int (xs (i.toInt.toNat + 1)), .ref am]) hX hl ⟨hi.1, by have := hi.2; omega⟩ (by decide) rfl rfl (fun ls hl => ?_)
  refine zl_m C 452 (ct := zC452) (65, 0, 160, 2) zM160 [(2, 205), (0, (xs (i.toInt.toNat + 1)).toInt), (0, (xs (i.toInt.toNat + 2)).toInt)] (vs := [.ref am, .int (xs (i.toInt.toNat + 1)), .int (xs (i.toInt.toNat + 2))]) hX rfl rfl rfl rfl rfl rfl ⟨Nat.le_of_ble_eq_true rfl, Nat.le_of_ble_eq_true rfl⟩ rfl ⟨_, _, rfl⟩ (zsr1 ham (zsi1 (zsi1 (trivial)))) (zar1 (zai1 (zai1 (trivial)))) hl.1 (by decide +kernel) rfl (fun H locs hX => ?_)
  refine pv_W hx hb hR 1 1404 (zlv b ax am i) [] rfl hl (fun ls hl => ?_)
  exact next H locs ls hX hl
set_option maxRecDepth 100000 in
theorem zlk12 (C : zLC D ST b0 l B0 Sg p R s m args meth c b ax am L xs nc ns) (hi : 0 ≤ i.toInt ∧ i.toInt + 6 ≤ L) (hX : zLX D b0 B0 Sg s H locs) (hl : lv_has ls 4 (zlv b ax am i)) (next : ∀ (H2 : Heap) (locs2 : List Loc) (ls2 : Array Slot), zLX D b0 B0 Sg s H2 locs2 → lv_has ls2 4 (zlv b ax am i) → W p l e R s m args below meth c H2 locs2 nc ns Q (F0 m 1404 ls2 [])) : W p l e R s m args below meth c H locs nc ns Q (F0 m 604 ls []) := by
  obtain ⟨-, -, -, -, -, hF, -, -, hax, ham, -, -⟩ := id C
  obtain ⟨hx, hb, -, -, -⟩ := id hF.1
  have hR := zMk0.1
  refine pv_W hx hb hR 1 605 (zlv b ax am i) [.ref ax] rfl hl (fun ls hl => ?_)
  refine zl_arg C (k := 1) (st := [.ref ax]) hX hl ⟨hi.1, by have := hi.2; omega⟩ (by decide) rfl rfl (fun ls hl => ?_)
  refine zl_arg C (k := 2) (st := [.int (xs (i.toInt.toNat + 1)), .ref ax]) hX hl ⟨hi.1, by have := hi.2; omega⟩ (by decide) rfl rfl (fun ls hl => ?_)
  refine zl_m C 338 (ct := zC338) (66, 0, 58, 2) zM58 [(2, 1), (0, (xs (i.toInt.toNat + 1)).toInt), (0, (xs (i.toInt.toNat + 2)).toInt)] (vs := [.ref ax, .int (xs (i.toInt.toNat + 1)), .int (xs (i.toInt.toNat + 2))]) hX rfl rfl rfl rfl rfl rfl ⟨Nat.le_of_ble_eq_true rfl, Nat.le_of_ble_eq_true rfl⟩ rfl ⟨_, _, rfl⟩ (zsr1 hax (zsi1 (zsi1 (trivial)))) (zar1 (zai1 (zai1 (trivial)))) hl.1 (by decide +kernel) rfl (fun H locs hX => ?_)
  refine pv_W hx hb hR 1 620 (zlv b ax am i) [.ref am] rfl hl (fun ls hl => ?_)
  refine zl_arg C (k := 1) (st := [.ref am]) hX hl ⟨hi.1, by have := hi.2; omega⟩ (by decide) rfl rfl (fun ls hl => ?_)
  refine zl_arg C (k := 2) (st := [.int (xs (i.toInt.toNat + 1)), .ref am]) hX hl ⟨hi.1, by have := hi.2; omega⟩ (by decide) rfl rfl (fun ls hl => ?_)
  refine zl_m C 453 (ct := zC453) (69, 0, 161, 2) zM161 [(2, 205), (0, (xs (i.toInt.toNat + 1)).toInt), (0, (xs (i.toInt.toNat + 2)).toInt)] (vs := [.ref am, .int (xs (i.toInt.toNat + 1)), .int (xs (i.toInt.toNat + 2))]) hX rfl rfl rfl rfl rfl rfl ⟨Nat.le_of_ble_eq_true rfl, Nat.le_of_ble_eq_true rfl⟩ rfl ⟨_, _, rfl⟩ (zsr1 ham (zsi1 (zsi1 (trivial)))) (zar1 (zai1 (zai1 (trivial)))) hl.1 (by decide +kernel) rfl (fun H locs hX => ?_)
  refine pv_W hx hb hR 1 1404 (zlv b ax am i) [] rfl hl (fun ls hl => ?_)
  exact next H locs ls hX hl
set_option maxRecDepth 100000 in
theorem zlk13 (C : zLC D ST b0 l B0 Sg p R s m args meth c b ax am L xs nc ns) (hi : 0 ≤ i.toInt ∧ i.toInt + 6 ≤ L) (hX : zLX D b0 B0 Sg s H locs) (hl : lv_has ls 4 (zlv b ax am i)) (next : ∀ (H2 : Heap) (locs2 : List Loc) (ls2 : Array Slot), zLX D b0 B0 Sg s H2 locs2 → lv_has ls2 4 (zlv b ax am i) → W p l e R s m args below meth c H2 locs2 nc ns Q (F0 m 1404 ls2 [])) : W p l e R s m args below meth c H locs nc ns Q (F0 m 637 ls []) := by
  obtain ⟨-, -, -, -, -, hF, -, -, hax, ham, -, -⟩ := id C
  obtain ⟨hx, hb, -, -, -⟩ := id hF.1
  have hR := zMk0.1
  refine pv_W hx hb hR 1 638 (zlv b ax am i) [.ref ax] rfl hl (fun ls hl => ?_)
  refine zl_arg C (k := 1) (st := [.ref ax]) hX hl ⟨hi.1, by have := hi.2; omega⟩ (by decide) rfl rfl (fun ls hl => ?_)
  refine zl_arg C (k := 2) (st := [.int (xs (i.toInt.toNat + 1)), .ref ax]) hX hl ⟨hi.1, by have := hi.2; omega⟩ (by decide) rfl rfl (fun ls hl => ?_)
  refine zl_m C 344 (ct := zC344) (70, 0, 59, 2) zM59 [(2, 1), (0, (xs (i.toInt.toNat + 1)).toInt), (0, (xs (i.toInt.toNat + 2)).toInt)] (vs := [.ref ax, .int (xs (i.toInt.toNat + 1)), .int (xs (i.toInt.toNat + 2))]) hX rfl rfl rfl rfl rfl rfl ⟨Nat.le_of_ble_eq_true rfl, Nat.le_of_ble_eq_true rfl⟩ rfl ⟨_, _, rfl⟩ (zsr1 hax (zsi1 (zsi1 (trivial)))) (zar1 (zai1 (zai1 (trivial)))) hl.1 (by decide +kernel) rfl (fun H locs hX => ?_)
  refine pv_W hx hb hR 1 653 (zlv b ax am i) [.ref am] rfl hl (fun ls hl => ?_)
  refine zl_arg C (k := 1) (st := [.ref am]) hX hl ⟨hi.1, by have := hi.2; omega⟩ (by decide) rfl rfl (fun ls hl => ?_)
  refine zl_arg C (k := 2) (st := [.int (xs (i.toInt.toNat + 1)), .ref am]) hX hl ⟨hi.1, by have := hi.2; omega⟩ (by decide) rfl rfl (fun ls hl => ?_)
  refine zl_m C 457 (ct := zC457) (73, 0, 162, 2) zM162 [(2, 205), (0, (xs (i.toInt.toNat + 1)).toInt), (0, (xs (i.toInt.toNat + 2)).toInt)] (vs := [.ref am, .int (xs (i.toInt.toNat + 1)), .int (xs (i.toInt.toNat + 2))]) hX rfl rfl rfl rfl rfl rfl ⟨Nat.le_of_ble_eq_true rfl, Nat.le_of_ble_eq_true rfl⟩ rfl ⟨_, _, rfl⟩ (zsr1 ham (zsi1 (zsi1 (trivial)))) (zar1 (zai1 (zai1 (trivial)))) hl.1 (by decide +kernel) rfl (fun H locs hX => ?_)
  refine pv_W hx hb hR 1 1404 (zlv b ax am i) [] rfl hl (fun ls hl => ?_)
  exact next H locs ls hX hl
set_option maxRecDepth 100000 in
theorem zlk15 (C : zLC D ST b0 l B0 Sg p R s m args meth c b ax am L xs nc ns) (hi : 0 ≤ i.toInt ∧ i.toInt + 6 ≤ L) (hX : zLX D b0 B0 Sg s H locs) (hl : lv_has ls 4 (zlv b ax am i)) (next : ∀ (H2 : Heap) (locs2 : List Loc) (ls2 : Array Slot), zLX D b0 B0 Sg s H2 locs2 → lv_has ls2 4 (zlv b ax am i) → W p l e R s m args below meth c H2 locs2 nc ns Q (F0 m 1404 ls2 [])) : W p l e R s m args below meth c H locs nc ns Q (F0 m 693 ls []) := by
  obtain ⟨-, -, -, -, -, hF, -, -, hax, ham, -, -⟩ := id C
  obtain ⟨hx, hb, -, -, -⟩ := id hF.1
  have hR := zMk0.1
  refine pv_W hx hb hR 1 694 (zlv b ax am i) [.ref ax] rfl hl (fun ls hl => ?_)
  refine zl_arg C (k := 1) (st := [.ref ax]) hX hl ⟨hi.1, by have := hi.2; omega⟩ (by decide) rfl rfl (fun ls hl => ?_)
  refine zl_arg C (k := 2) (st := [.int (xs (i.toInt.toNat + 1)), .ref ax]) hX hl ⟨hi.1, by have := hi.2; omega⟩ (by decide) rfl rfl (fun ls hl => ?_)
  refine zl_m C 354 (ct := zC354) (78, 0, 68, 2) zM68 [(2, 1), (0, (xs (i.toInt.toNat + 1)).toInt), (0, (xs (i.toInt.toNat + 2)).toInt)] (vs := [.ref ax, .int (xs (i.toInt.toNat + 1)), .int (xs (i.toInt.toNat + 2))]) hX rfl rfl rfl rfl rfl rfl ⟨Nat.le_of_ble_eq_true rfl, Nat.le_of_ble_eq_true rfl⟩ rfl ⟨_, _, rfl⟩ (zsr1 hax (zsi1 (zsi1 (trivial)))) (zar1 (zai1 (zai1 (trivial)))) hl.1 (by decide +kernel) rfl (fun H locs hX => ?_)
  refine pv_W hx hb hR 1 709 (zlv b ax am i) [.ref am] rfl hl (fun ls hl => ?_)
  refine zl_arg C (k := 1) (st := [.ref am]) hX hl ⟨hi.1, by have := hi.2; omega⟩ (by decide) rfl rfl (fun ls hl => ?_)
  refine zl_arg C (k := 2) (st := [.int (xs (i.toInt.toNat + 1)), .ref am]) hX hl ⟨hi.1, by have := hi.2; omega⟩ (by decide) rfl rfl (fun ls hl => ?_)
  refine zl_m C 461 (ct := zC461) (81, 0, 170, 2) zM170 [(2, 205), (0, (xs (i.toInt.toNat + 1)).toInt), (0, (xs (i.toInt.toNat + 2)).toInt)] (vs := [.ref am, .int (xs (i.toInt.toNat + 1)), .int (xs (i.toInt.toNat + 2))]) hX rfl rfl rfl rfl rfl rfl ⟨Nat.le_of_ble_eq_true rfl, Nat.le_of_ble_eq_true rfl⟩ rfl ⟨_, _, rfl⟩ (zsr1 ham (zsi1 (zsi1 (trivial)))) (zar1 (zai1 (zai1 (trivial)))) hl.1 (by decide +kernel) rfl (fun H locs hX => ?_)
  refine pv_W hx hb hR 1 1404 (zlv b ax am i) [] rfl hl (fun ls hl => ?_)
  exact next H locs ls hX hl
set_option maxRecDepth 100000 in
theorem zlk16 (C : zLC D ST b0 l B0 Sg p R s m args meth c b ax am L xs nc ns) (hi : 0 ≤ i.toInt ∧ i.toInt + 6 ≤ L) (hX : zLX D b0 B0 Sg s H locs) (hl : lv_has ls 4 (zlv b ax am i)) (next : ∀ (H2 : Heap) (locs2 : List Loc) (ls2 : Array Slot), zLX D b0 B0 Sg s H2 locs2 → lv_has ls2 4 (zlv b ax am i) → W p l e R s m args below meth c H2 locs2 nc ns Q (F0 m 1404 ls2 [])) : W p l e R s m args below meth c H locs nc ns Q (F0 m 726 ls []) := by
  obtain ⟨-, -, -, -, -, hF, -, -, hax, ham, -, -⟩ := id C
  obtain ⟨hx, hb, -, -, -⟩ := id hF.1
  have hR := zMk0.1
  refine pv_W hx hb hR 1 727 (zlv b ax am i) [.ref ax] rfl hl (fun ls hl => ?_)
  refine zl_arg C (k := 1) (st := [.ref ax]) hX hl ⟨hi.1, by have := hi.2; omega⟩ (by decide) rfl rfl (fun ls hl => ?_)
  refine zl_m C 356 (ct := zC356) (82, 0, 70, 1) zM70 [(2, 1), (0, (xs (i.toInt.toNat + 1)).toInt)] (vs := [.ref ax, .int (xs (i.toInt.toNat + 1))]) hX rfl rfl rfl rfl rfl rfl ⟨Nat.le_of_ble_eq_true rfl, Nat.le_of_ble_eq_true rfl⟩ rfl ⟨_, _, rfl⟩ (zsr1 hax (zsi1 (trivial))) (zar1 (zai1 (trivial))) hl.1 (by decide +kernel) rfl (fun H locs hX => ?_)
  refine pv_W hx hb hR 1 737 (zlv b ax am i) [.ref am] rfl hl (fun ls hl => ?_)
  refine zl_arg C (k := 1) (st := [.ref am]) hX hl ⟨hi.1, by have := hi.2; omega⟩ (by decide) rfl rfl (fun ls hl => ?_)
  refine zl_m C 462 (ct := zC462) (85, 0, 171, 1) zM171 [(2, 205), (0, (xs (i.toInt.toNat + 1)).toInt)] (vs := [.ref am, .int (xs (i.toInt.toNat + 1))]) hX rfl rfl rfl rfl rfl rfl ⟨Nat.le_of_ble_eq_true rfl, Nat.le_of_ble_eq_true rfl⟩ rfl ⟨_, _, rfl⟩ (zsr1 ham (zsi1 (trivial))) (zar1 (zai1 (trivial))) hl.1 (by decide +kernel) rfl (fun H locs hX => ?_)
  refine pv_W hx hb hR 1 1404 (zlv b ax am i) [] rfl hl (fun ls hl => ?_)
  exact next H locs ls hX hl
set_option maxRecDepth 100000 in
theorem zlk17 (C : zLC D ST b0 l B0 Sg p R s m args meth c b ax am L xs nc ns) (hi : 0 ≤ i.toInt ∧ i.toInt + 6 ≤ L) (hX : zLX D b0 B0 Sg s H locs) (hl : lv_has ls 4 (zlv b ax am i)) (next : ∀ (H2 : Heap) (locs2 : List Loc) (ls2 : Array Slot), zLX D b0 B0 Sg s H2 locs2 → lv_has ls2 4 (zlv b ax am i) → W p l e R s m args below meth c H2 locs2 nc ns Q (F0 m 1404 ls2 [])) : W p l e R s m args below meth c H locs nc ns Q (F0 m 749 ls []) := by
  obtain ⟨-, -, -, -, -, hF, -, -, hax, ham, -, -⟩ := id C
  obtain ⟨hx, hb, -, -, -⟩ := id hF.1
  have hR := zMk0.1
  refine pv_W hx hb hR 1 750 (zlv b ax am i) [.ref ax] rfl hl (fun ls hl => ?_)
  refine zl_arg C (k := 1) (st := [.ref ax]) hX hl ⟨hi.1, by have := hi.2; omega⟩ (by decide) rfl rfl (fun ls hl => ?_)
  refine zl_arg C (k := 2) (st := [.int (xs (i.toInt.toNat + 1)), .ref ax]) hX hl ⟨hi.1, by have := hi.2; omega⟩ (by decide) rfl rfl (fun ls hl => ?_)
  refine zl_m C 360 (ct := zC360) (86, 0, 75, 2) zM75 [(2, 1), (0, (xs (i.toInt.toNat + 1)).toInt), (0, (xs (i.toInt.toNat + 2)).toInt)] (vs := [.ref ax, .int (xs (i.toInt.toNat + 1)), .int (xs (i.toInt.toNat + 2))]) hX rfl rfl rfl rfl rfl rfl ⟨Nat.le_of_ble_eq_true rfl, Nat.le_of_ble_eq_true rfl⟩ rfl ⟨_, _, rfl⟩ (zsr1 hax (zsi1 (zsi1 (trivial)))) (zar1 (zai1 (zai1 (trivial)))) hl.1 (by decide +kernel) rfl (fun H locs hX => ?_)
  refine pv_W hx hb hR 1 765 (zlv b ax am i) [.ref am] rfl hl (fun ls hl => ?_)
  refine zl_arg C (k := 1) (st := [.ref am]) hX hl ⟨hi.1, by have := hi.2; omega⟩ (by decide) rfl rfl (fun ls hl => ?_)
  refine zl_arg C (k := 2) (st := [.int (xs (i.toInt.toNat + 1)), .ref am]) hX hl ⟨hi.1, by have := hi.2; omega⟩ (by decide) rfl rfl (fun ls hl => ?_)
  refine zl_m C 463 (ct := zC463) (89, 0, 172, 2) zM172 [(2, 205), (0, (xs (i.toInt.toNat + 1)).toInt), (0, (xs (i.toInt.toNat + 2)).toInt)] (vs := [.ref am, .int (xs (i.toInt.toNat + 1)), .int (xs (i.toInt.toNat + 2))]) hX rfl rfl rfl rfl rfl rfl ⟨Nat.le_of_ble_eq_true rfl, Nat.le_of_ble_eq_true rfl⟩ rfl ⟨_, _, rfl⟩ (zsr1 ham (zsi1 (zsi1 (trivial)))) (zar1 (zai1 (zai1 (trivial)))) hl.1 (by decide +kernel) rfl (fun H locs hX => ?_)
  refine pv_W hx hb hR 1 1404 (zlv b ax am i) [] rfl hl (fun ls hl => ?_)
  exact next H locs ls hX hl
set_option maxRecDepth 100000 in
theorem zlk18 (C : zLC D ST b0 l B0 Sg p R s m args meth c b ax am L xs nc ns) (hi : 0 ≤ i.toInt ∧ i.toInt + 6 ≤ L) (hX : zLX D b0 B0 Sg s H locs) (hl : lv_has ls 4 (zlv b ax am i)) (next : ∀ (H2 : Heap) (locs2 : List Loc) (ls2 : Array Slot), zLX D b0 B0 Sg s H2 locs2 → lv_has ls2 4 (zlv b ax am i) → W p l e R s m args below meth c H2 locs2 nc ns Q (F0 m 1404 ls2 [])) : W p l e R s m args below meth c H locs nc ns Q (F0 m 782 ls []) := by
  obtain ⟨-, -, -, -, -, hF, -, -, hax, ham, -, -⟩ := id C
  obtain ⟨hx, hb, -, -, -⟩ := id hF.1
  have hR := zMk0.1
  refine pv_W hx hb hR 1 783 (zlv b ax am i) [.ref ax] rfl hl (fun ls hl => ?_)
  refine zl_arg C (k := 1) (st := [.ref ax]) hX hl ⟨hi.1, by have := hi.2; omega⟩ (by decide) rfl rfl (fun ls hl => ?_)
  refine zl_arg C (k := 2) (st := [.int (xs (i.toInt.toNat + 1)), .ref ax]) hX hl ⟨hi.1, by have := hi.2; omega⟩ (by decide) rfl rfl (fun ls hl => ?_)
  refine zl_arg C (k := 3) (st := [.int (xs (i.toInt.toNat + 2)), .int (xs (i.toInt.toNat + 1)), .ref ax]) hX hl ⟨hi.1, by have := hi.2; omega⟩ (by decide) rfl rfl (fun ls hl => ?_)
  refine zl_arg C (k := 4) (st := [.int (xs (i.toInt.toNat + 3)), .int (xs (i.toInt.toNat + 2)), .int (xs (i.toInt.toNat + 1)), .ref ax]) hX hl ⟨hi.1, by have := hi.2; omega⟩ (by decide) rfl rfl (fun ls hl => ?_)
  refine zl_m C 361 (ct := zC361) (90, 0, 79, 4) zM79 [(2, 1), (0, (xs (i.toInt.toNat + 1)).toInt), (0, (xs (i.toInt.toNat + 2)).toInt), (0, (xs (i.toInt.toNat + 3)).toInt), (0, (xs (i.toInt.toNat + 4)).toInt)] (vs := [.ref ax, .int (xs (i.toInt.toNat + 1)), .int (xs (i.toInt.toNat + 2)), .int (xs (i.toInt.toNat + 3)), .int (xs (i.toInt.toNat + 4))]) hX rfl rfl rfl rfl rfl rfl ⟨Nat.le_of_ble_eq_true rfl, Nat.le_of_ble_eq_true rfl⟩ rfl ⟨_, _, rfl⟩ (zsr1 hax (zsi1 (zsi1 (zsi1 (zsi1 (trivial)))))) (zar1 (zai1 (zai1 (zai1 (zai1 (trivial)))))) hl.1 (by decide +kernel) rfl (fun H locs hX => ?_)
  refine pv_W hx hb hR 1 808 (zlv b ax am i) [.ref am] rfl hl (fun ls hl => ?_)
  refine zl_arg C (k := 1) (st := [.ref am]) hX hl ⟨hi.1, by have := hi.2; omega⟩ (by decide) rfl rfl (fun ls hl => ?_)
  refine zl_arg C (k := 2) (st := [.int (xs (i.toInt.toNat + 1)), .ref am]) hX hl ⟨hi.1, by have := hi.2; omega⟩ (by decide) rfl rfl (fun ls hl => ?_)
  refine zl_arg C (k := 3) (st := [.int (xs (i.toInt.toNat + 2)), .int (xs (i.toInt.toNat + 1)), .ref am]) hX hl ⟨hi.1, by have := hi.2; omega⟩ (by decide) rfl rfl (fun ls hl => ?_)
  refine zl_arg C (k := 4) (st := [.int (xs (i.toInt.toNat + 3)), .int (xs (i.toInt.toNat + 2)), .int (xs (i.toInt.toNat + 1)), .ref am]) hX hl ⟨hi.1, by have := hi.2; omega⟩ (by decide) rfl rfl (fun ls hl => ?_)
  refine zl_m C 464 (ct := zC464) (94, 0, 174, 4) zM174 [(2, 205), (0, (xs (i.toInt.toNat + 1)).toInt), (0, (xs (i.toInt.toNat + 2)).toInt), (0, (xs (i.toInt.toNat + 3)).toInt), (0, (xs (i.toInt.toNat + 4)).toInt)] (vs := [.ref am, .int (xs (i.toInt.toNat + 1)), .int (xs (i.toInt.toNat + 2)), .int (xs (i.toInt.toNat + 3)), .int (xs (i.toInt.toNat + 4))]) hX rfl rfl rfl rfl rfl rfl ⟨Nat.le_of_ble_eq_true rfl, Nat.le_of_ble_eq_true rfl⟩ rfl ⟨_, _, rfl⟩ (zsr1 ham (zsi1 (zsi1 (zsi1 (zsi1 (trivial)))))) (zar1 (zai1 (zai1 (zai1 (zai1 (trivial)))))) hl.1 (by decide +kernel) rfl (fun H locs hX => ?_)
  refine pv_W hx hb hR 1 1404 (zlv b ax am i) [] rfl hl (fun ls hl => ?_)
  exact next H locs ls hX hl
set_option maxRecDepth 100000 in
theorem zlk19 (C : zLC D ST b0 l B0 Sg p R s m args meth c b ax am L xs nc ns) (hi : 0 ≤ i.toInt ∧ i.toInt + 6 ≤ L) (hX : zLX D b0 B0 Sg s H locs) (hl : lv_has ls 4 (zlv b ax am i)) (next : ∀ (H2 : Heap) (locs2 : List Loc) (ls2 : Array Slot), zLX D b0 B0 Sg s H2 locs2 → lv_has ls2 4 (zlv b ax am i) → W p l e R s m args below meth c H2 locs2 nc ns Q (F0 m 1404 ls2 [])) : W p l e R s m args below meth c H locs nc ns Q (F0 m 835 ls []) := by
  obtain ⟨-, -, -, -, -, hF, -, -, hax, ham, -, -⟩ := id C
  obtain ⟨hx, hb, -, -, -⟩ := id hF.1
  have hR := zMk0.1
  refine pv_W hx hb hR 1 836 (zlv b ax am i) [.ref ax] rfl hl (fun ls hl => ?_)
  refine zl_arg C (k := 1) (st := [.ref ax]) hX hl ⟨hi.1, by have := hi.2; omega⟩ (by decide) rfl rfl (fun ls hl => ?_)
  refine zl_m C 365 (ct := zC365) (95, 0, 80, 1) zM80 [(2, 1), (0, (xs (i.toInt.toNat + 1)).toInt)] (vs := [.ref ax, .int (xs (i.toInt.toNat + 1))]) hX rfl rfl rfl rfl rfl rfl ⟨Nat.le_of_ble_eq_true rfl, Nat.le_of_ble_eq_true rfl⟩ rfl ⟨_, _, rfl⟩ (zsr1 hax (zsi1 (trivial))) (zar1 (zai1 (trivial))) hl.1 (by decide +kernel) rfl (fun H locs hX => ?_)
  refine pv_W hx hb hR 1 846 (zlv b ax am i) [.ref am] rfl hl (fun ls hl => ?_)
  refine zl_arg C (k := 1) (st := [.ref am]) hX hl ⟨hi.1, by have := hi.2; omega⟩ (by decide) rfl rfl (fun ls hl => ?_)
  refine zl_m C 465 (ct := zC465) (98, 0, 175, 1) zM175 [(2, 205), (0, (xs (i.toInt.toNat + 1)).toInt)] (vs := [.ref am, .int (xs (i.toInt.toNat + 1))]) hX rfl rfl rfl rfl rfl rfl ⟨Nat.le_of_ble_eq_true rfl, Nat.le_of_ble_eq_true rfl⟩ rfl ⟨_, _, rfl⟩ (zsr1 ham (zsi1 (trivial))) (zar1 (zai1 (trivial))) hl.1 (by decide +kernel) rfl (fun H locs hX => ?_)
  refine pv_W hx hb hR 1 1404 (zlv b ax am i) [] rfl hl (fun ls hl => ?_)
  exact next H locs ls hX hl
set_option maxRecDepth 100000 in
theorem zlk20 (C : zLC D ST b0 l B0 Sg p R s m args meth c b ax am L xs nc ns) (hi : 0 ≤ i.toInt ∧ i.toInt + 6 ≤ L) (hX : zLX D b0 B0 Sg s H locs) (hl : lv_has ls 4 (zlv b ax am i)) (next : ∀ (H2 : Heap) (locs2 : List Loc) (ls2 : Array Slot), zLX D b0 B0 Sg s H2 locs2 → lv_has ls2 4 (zlv b ax am i) → W p l e R s m args below meth c H2 locs2 nc ns Q (F0 m 1404 ls2 [])) : W p l e R s m args below meth c H locs nc ns Q (F0 m 858 ls []) := by
  obtain ⟨-, -, -, -, -, hF, -, -, hax, ham, -, -⟩ := id C
  obtain ⟨hx, hb, -, -, -⟩ := id hF.1
  have hR := zMk0.1
  refine pv_W hx hb hR 1 859 (zlv b ax am i) [.ref ax] rfl hl (fun ls hl => ?_)
  refine zl_arg C (k := 1) (st := [.ref ax]) hX hl ⟨hi.1, by have := hi.2; omega⟩ (by decide) rfl rfl (fun ls hl => ?_)
  refine zl_arg C (k := 2) (st := [.int (xs (i.toInt.toNat + 1)), .ref ax]) hX hl ⟨hi.1, by have := hi.2; omega⟩ (by decide) rfl rfl (fun ls hl => ?_)
  refine zl_arg C (k := 3) (st := [.int (xs (i.toInt.toNat + 2)), .int (xs (i.toInt.toNat + 1)), .ref ax]) hX hl ⟨hi.1, by have := hi.2; omega⟩ (by decide) rfl rfl (fun ls hl => ?_)
  refine zl_m C 367 (ct := zC367) (99, 0, 82, 3) zM82 [(2, 1), (0, (xs (i.toInt.toNat + 1)).toInt), (0, (xs (i.toInt.toNat + 2)).toInt), (0, (xs (i.toInt.toNat + 3)).toInt)] (vs := [.ref ax, .int (xs (i.toInt.toNat + 1)), .int (xs (i.toInt.toNat + 2)), .int (xs (i.toInt.toNat + 3))]) hX rfl rfl rfl rfl rfl rfl ⟨Nat.le_of_ble_eq_true rfl, Nat.le_of_ble_eq_true rfl⟩ rfl ⟨_, _, rfl⟩ (zsr1 hax (zsi1 (zsi1 (zsi1 (trivial))))) (zar1 (zai1 (zai1 (zai1 (trivial))))) hl.1 (by decide +kernel) rfl (fun H locs hX => ?_)
  refine pv_W hx hb hR 1 879 (zlv b ax am i) [.ref am] rfl hl (fun ls hl => ?_)
  refine zl_arg C (k := 1) (st := [.ref am]) hX hl ⟨hi.1, by have := hi.2; omega⟩ (by decide) rfl rfl (fun ls hl => ?_)
  refine zl_arg C (k := 2) (st := [.int (xs (i.toInt.toNat + 1)), .ref am]) hX hl ⟨hi.1, by have := hi.2; omega⟩ (by decide) rfl rfl (fun ls hl => ?_)
  refine zl_arg C (k := 3) (st := [.int (xs (i.toInt.toNat + 2)), .int (xs (i.toInt.toNat + 1)), .ref am]) hX hl ⟨hi.1, by have := hi.2; omega⟩ (by decide) rfl rfl (fun ls hl => ?_)
  refine zl_m C 466 (ct := zC466) (103, 0, 179, 3) zM179 [(2, 205), (0, (xs (i.toInt.toNat + 1)).toInt), (0, (xs (i.toInt.toNat + 2)).toInt), (0, (xs (i.toInt.toNat + 3)).toInt)] (vs := [.ref am, .int (xs (i.toInt.toNat + 1)), .int (xs (i.toInt.toNat + 2)), .int (xs (i.toInt.toNat + 3))]) hX rfl rfl rfl rfl rfl rfl ⟨Nat.le_of_ble_eq_true rfl, Nat.le_of_ble_eq_true rfl⟩ rfl ⟨_, _, rfl⟩ (zsr1 ham (zsi1 (zsi1 (zsi1 (trivial))))) (zar1 (zai1 (zai1 (zai1 (trivial))))) hl.1 (by decide +kernel) rfl (fun H locs hX => ?_)
  refine pv_W hx hb hR 1 1404 (zlv b ax am i) [] rfl hl (fun ls hl => ?_)
  exact next H locs ls hX hl
set_option maxRecDepth 100000 in
theorem zlk23 (C : zLC D ST b0 l B0 Sg p R s m args meth c b ax am L xs nc ns) (hi : 0 ≤ i.toInt ∧ i.toInt + 6 ≤ L) (hX : zLX D b0 B0 Sg s H locs) (hl : lv_has ls 4 (zlv b ax am i)) (next : ∀ (H2 : Heap) (locs2 : List Loc) (ls2 : Array Slot), zLX D b0 B0 Sg s H2 locs2 → lv_has ls2 4 (zlv b ax am i) → W p l e R s m args below meth c H2 locs2 nc ns Q (F0 m 1404 ls2 [])) : W p l e R s m args below meth c H locs nc ns Q (F0 m 957 ls []) := by
  obtain ⟨-, -, -, -, -, hF, -, -, hax, ham, -, -⟩ := id C
  obtain ⟨hx, hb, -, -, -⟩ := id hF.1
  have hR := zMk0.1
  refine pv_W hx hb hR 1 958 (zlv b ax am i) [.ref ax] rfl hl (fun ls hl => ?_)
  refine zl_arg C (k := 1) (st := [.ref ax]) hX hl ⟨hi.1, by have := hi.2; omega⟩ (by decide) rfl rfl (fun ls hl => ?_)
  refine zl_arg C (k := 2) (st := [.int (xs (i.toInt.toNat + 1)), .ref ax]) hX hl ⟨hi.1, by have := hi.2; omega⟩ (by decide) rfl rfl (fun ls hl => ?_)
  refine zl_arg C (k := 3) (st := [.int (xs (i.toInt.toNat + 2)), .int (xs (i.toInt.toNat + 1)), .ref ax]) hX hl ⟨hi.1, by have := hi.2; omega⟩ (by decide) rfl rfl (fun ls hl => ?_)
  refine zl_m C 370 (ct := zC370) (112, 0, 89, 3) zM89 [(2, 1), (0, (xs (i.toInt.toNat + 1)).toInt), (0, (xs (i.toInt.toNat + 2)).toInt), (0, (xs (i.toInt.toNat + 3)).toInt)] (vs := [.ref ax, .int (xs (i.toInt.toNat + 1)), .int (xs (i.toInt.toNat + 2)), .int (xs (i.toInt.toNat + 3))]) hX rfl rfl rfl rfl rfl rfl ⟨Nat.le_of_ble_eq_true rfl, Nat.le_of_ble_eq_true rfl⟩ rfl ⟨_, _, rfl⟩ (zsr1 hax (zsi1 (zsi1 (zsi1 (trivial))))) (zar1 (zai1 (zai1 (zai1 (trivial))))) hl.1 (by decide +kernel) rfl (fun H locs hX => ?_)
  refine pv_W hx hb hR 1 978 (zlv b ax am i) [.ref am] rfl hl (fun ls hl => ?_)
  refine zl_arg C (k := 1) (st := [.ref am]) hX hl ⟨hi.1, by have := hi.2; omega⟩ (by decide) rfl rfl (fun ls hl => ?_)
  refine zl_arg C (k := 2) (st := [.int (xs (i.toInt.toNat + 1)), .ref am]) hX hl ⟨hi.1, by have := hi.2; omega⟩ (by decide) rfl rfl (fun ls hl => ?_)
  refine zl_arg C (k := 3) (st := [.int (xs (i.toInt.toNat + 2)), .int (xs (i.toInt.toNat + 1)), .ref am]) hX hl ⟨hi.1, by have := hi.2; omega⟩ (by decide) rfl rfl (fun ls hl => ?_)
  refine zl_m C 472 (ct := zC472) (115, 0, 184, 3) zM184 [(2, 205), (0, (xs (i.toInt.toNat + 1)).toInt), (0, (xs (i.toInt.toNat + 2)).toInt), (0, (xs (i.toInt.toNat + 3)).toInt)] (vs := [.ref am, .int (xs (i.toInt.toNat + 1)), .int (xs (i.toInt.toNat + 2)), .int (xs (i.toInt.toNat + 3))]) hX rfl rfl rfl rfl rfl rfl ⟨Nat.le_of_ble_eq_true rfl, Nat.le_of_ble_eq_true rfl⟩ rfl ⟨_, _, rfl⟩ (zsr1 ham (zsi1 (zsi1 (zsi1 (trivial))))) (zar1 (zai1 (zai1 (zai1 (trivial))))) hl.1 (by decide +kernel) rfl (fun H locs hX => ?_)
  refine pv_W hx hb hR 1 1404 (zlv b ax am i) [] rfl hl (fun ls hl => ?_)
  exact next H locs ls hX hl
set_option maxRecDepth 100000 in
theorem zlk24 (C : zLC D ST b0 l B0 Sg p R s m args meth c b ax am L xs nc ns) (hi : 0 ≤ i.toInt ∧ i.toInt + 6 ≤ L) (hX : zLX D b0 B0 Sg s H locs) (hl : lv_has ls 4 (zlv b ax am i)) (next : ∀ (H2 : Heap) (locs2 : List Loc) (ls2 : Array Slot), zLX D b0 B0 Sg s H2 locs2 → lv_has ls2 4 (zlv b ax am i) → W p l e R s m args below meth c H2 locs2 nc ns Q (F0 m 1404 ls2 [])) : W p l e R s m args below meth c H locs nc ns Q (F0 m 1000 ls []) := by
  obtain ⟨-, -, -, -, -, hF, -, -, hax, ham, -, -⟩ := id C
  obtain ⟨hx, hb, -, -, -⟩ := id hF.1
  have hR := zMk0.1
  refine pv_W hx hb hR 1 1001 (zlv b ax am i) [.ref ax] rfl hl (fun ls hl => ?_)
  refine zl_arg C (k := 1) (st := [.ref ax]) hX hl ⟨hi.1, by have := hi.2; omega⟩ (by decide) rfl rfl (fun ls hl => ?_)
  refine zl_m C 371 (ct := zC371) (116, 0, 91, 1) zM91 [(2, 1), (0, (xs (i.toInt.toNat + 1)).toInt)] (vs := [.ref ax, .int (xs (i.toInt.toNat + 1))]) hX rfl rfl rfl rfl rfl rfl ⟨Nat.le_of_ble_eq_true rfl, Nat.le_of_ble_eq_true rfl⟩ rfl ⟨_, _, rfl⟩ (zsr1 hax (zsi1 (trivial))) (zar1 (zai1 (trivial))) hl.1 (by decide +kernel) rfl (fun H locs hX => ?_)
  refine pv_W hx hb hR 1 1011 (zlv b ax am i) [.ref am] rfl hl (fun ls hl => ?_)
  refine zl_arg C (k := 1) (st := [.ref am]) hX hl ⟨hi.1, by have := hi.2; omega⟩ (by decide) rfl rfl (fun ls hl => ?_)
  refine zl_m C 473 (ct := zC473) (119, 0, 186, 1) zM186 [(2, 205), (0, (xs (i.toInt.toNat + 1)).toInt)] (vs := [.ref am, .int (xs (i.toInt.toNat + 1))]) hX rfl rfl rfl rfl rfl rfl ⟨Nat.le_of_ble_eq_true rfl, Nat.le_of_ble_eq_true rfl⟩ rfl ⟨_, _, rfl⟩ (zsr1 ham (zsi1 (trivial))) (zar1 (zai1 (trivial))) hl.1 (by decide +kernel) rfl (fun H locs hX => ?_)
  refine pv_W hx hb hR 1 1404 (zlv b ax am i) [] rfl hl (fun ls hl => ?_)
  exact next H locs ls hX hl
set_option maxRecDepth 100000 in
theorem zlk25 (C : zLC D ST b0 l B0 Sg p R s m args meth c b ax am L xs nc ns) (hi : 0 ≤ i.toInt ∧ i.toInt + 6 ≤ L) (hX : zLX D b0 B0 Sg s H locs) (hl : lv_has ls 4 (zlv b ax am i)) (next : ∀ (H2 : Heap) (locs2 : List Loc) (ls2 : Array Slot), zLX D b0 B0 Sg s H2 locs2 → lv_has ls2 4 (zlv b ax am i) → W p l e R s m args below meth c H2 locs2 nc ns Q (F0 m 1404 ls2 [])) : W p l e R s m args below meth c H locs nc ns Q (F0 m 1023 ls []) := by
  obtain ⟨-, -, -, -, -, hF, -, -, hax, ham, -, -⟩ := id C
  obtain ⟨hx, hb, -, -, -⟩ := id hF.1
  have hR := zMk0.1
  refine pv_W hx hb hR 1 1024 (zlv b ax am i) [.ref ax] rfl hl (fun ls hl => ?_)
  refine zl_arg C (k := 1) (st := [.ref ax]) hX hl ⟨hi.1, by have := hi.2; omega⟩ (by decide) rfl rfl (fun ls hl => ?_)
  refine zl_m C 375 (ct := zC375) (120, 0, 92, 1) zM92 [(2, 1), (0, (xs (i.toInt.toNat + 1)).toInt)] (vs := [.ref ax, .int (xs (i.toInt.toNat + 1))]) hX rfl rfl rfl rfl rfl rfl ⟨Nat.le_of_ble_eq_true rfl, Nat.le_of_ble_eq_true rfl⟩ rfl ⟨_, _, rfl⟩ (zsr1 hax (zsi1 (trivial))) (zar1 (zai1 (trivial))) hl.1 (by decide +kernel) rfl (fun H locs hX => ?_)
  refine pv_W hx hb hR 1 1034 (zlv b ax am i) [.ref am] rfl hl (fun ls hl => ?_)
  refine zl_arg C (k := 1) (st := [.ref am]) hX hl ⟨hi.1, by have := hi.2; omega⟩ (by decide) rfl rfl (fun ls hl => ?_)
  refine zl_m C 476 (ct := zC476) (123, 0, 187, 1) zM187 [(2, 205), (0, (xs (i.toInt.toNat + 1)).toInt)] (vs := [.ref am, .int (xs (i.toInt.toNat + 1))]) hX rfl rfl rfl rfl rfl rfl ⟨Nat.le_of_ble_eq_true rfl, Nat.le_of_ble_eq_true rfl⟩ rfl ⟨_, _, rfl⟩ (zsr1 ham (zsi1 (trivial))) (zar1 (zai1 (trivial))) hl.1 (by decide +kernel) rfl (fun H locs hX => ?_)
  refine pv_W hx hb hR 1 1404 (zlv b ax am i) [] rfl hl (fun ls hl => ?_)
  exact next H locs ls hX hl
set_option maxRecDepth 100000 in
theorem zlk26 (C : zLC D ST b0 l B0 Sg p R s m args meth c b ax am L xs nc ns) (hi : 0 ≤ i.toInt ∧ i.toInt + 6 ≤ L) (hX : zLX D b0 B0 Sg s H locs) (hl : lv_has ls 4 (zlv b ax am i)) (next : ∀ (H2 : Heap) (locs2 : List Loc) (ls2 : Array Slot), zLX D b0 B0 Sg s H2 locs2 → lv_has ls2 4 (zlv b ax am i) → W p l e R s m args below meth c H2 locs2 nc ns Q (F0 m 1404 ls2 [])) : W p l e R s m args below meth c H locs nc ns Q (F0 m 1046 ls []) := by
  obtain ⟨-, -, -, -, -, hF, -, -, hax, ham, -, -⟩ := id C
  obtain ⟨hx, hb, -, -, -⟩ := id hF.1
  have hR := zMk0.1
  refine pv_W hx hb hR 1 1047 (zlv b ax am i) [.ref ax] rfl hl (fun ls hl => ?_)
  refine zl_arg C (k := 1) (st := [.ref ax]) hX hl ⟨hi.1, by have := hi.2; omega⟩ (by decide) rfl rfl (fun ls hl => ?_)
  refine zl_m C 376 (ct := zC376) (124, 0, 95, 1) zM95 [(2, 1), (0, (xs (i.toInt.toNat + 1)).toInt)] (vs := [.ref ax, .int (xs (i.toInt.toNat + 1))]) hX rfl rfl rfl rfl rfl rfl ⟨Nat.le_of_ble_eq_true rfl, Nat.le_of_ble_eq_true rfl⟩ rfl ⟨_, _, rfl⟩ (zsr1 hax (zsi1 (trivial))) (zar1 (zai1 (trivial))) hl.1 (by decide +kernel) rfl (fun H locs hX => ?_)
  refine pv_W hx hb hR 1 1057 (zlv b ax am i) [.ref am] rfl hl (fun ls hl => ?_)
  refine zl_arg C (k := 1) (st := [.ref am]) hX hl ⟨hi.1, by have := hi.2; omega⟩ (by decide) rfl rfl (fun ls hl => ?_)
  refine zl_m C 477 (ct := zC477) (127, 0, 188, 1) zM188 [(2, 205), (0, (xs (i.toInt.toNat + 1)).toInt)] (vs := [.ref am, .int (xs (i.toInt.toNat + 1))]) hX rfl rfl rfl rfl rfl rfl ⟨Nat.le_of_ble_eq_true rfl, Nat.le_of_ble_eq_true rfl⟩ rfl ⟨_, _, rfl⟩ (zsr1 ham (zsi1 (trivial))) (zar1 (zai1 (trivial))) hl.1 (by decide +kernel) rfl (fun H locs hX => ?_)
  refine pv_W hx hb hR 1 1404 (zlv b ax am i) [] rfl hl (fun ls hl => ?_)
  exact next H locs ls hX hl
set_option maxRecDepth 100000 in
theorem zlk27 (C : zLC D ST b0 l B0 Sg p R s m args meth c b ax am L xs nc ns) (hi : 0 ≤ i.toInt ∧ i.toInt + 6 ≤ L) (hX : zLX D b0 B0 Sg s H locs) (hl : lv_has ls 4 (zlv b ax am i)) (next : ∀ (H2 : Heap) (locs2 : List Loc) (ls2 : Array Slot), zLX D b0 B0 Sg s H2 locs2 → lv_has ls2 4 (zlv b ax am i) → W p l e R s m args below meth c H2 locs2 nc ns Q (F0 m 1404 ls2 [])) : W p l e R s m args below meth c H locs nc ns Q (F0 m 1069 ls []) := by
  obtain ⟨-, -, -, -, -, hF, -, -, hax, ham, -, -⟩ := id C
  obtain ⟨hx, hb, -, -, -⟩ := id hF.1
  have hR := zMk0.1
  refine pv_W hx hb hR 1 1070 (zlv b ax am i) [.ref ax] rfl hl (fun ls hl => ?_)
  refine zl_arg C (k := 1) (st := [.ref ax]) hX hl ⟨hi.1, by have := hi.2; omega⟩ (by decide) rfl rfl (fun ls hl => ?_)
  refine zl_m C 378 (ct := zC378) (128, 0, 96, 1) zM96 [(2, 1), (0, (xs (i.toInt.toNat + 1)).toInt)] (vs := [.ref ax, .int (xs (i.toInt.toNat + 1))]) hX rfl rfl rfl rfl rfl rfl ⟨Nat.le_of_ble_eq_true rfl, Nat.le_of_ble_eq_true rfl⟩ rfl ⟨_, _, rfl⟩ (zsr1 hax (zsi1 (trivial))) (zar1 (zai1 (trivial))) hl.1 (by decide +kernel) rfl (fun H locs hX => ?_)
  refine pv_W hx hb hR 1 1080 (zlv b ax am i) [.ref am] rfl hl (fun ls hl => ?_)
  refine zl_arg C (k := 1) (st := [.ref am]) hX hl ⟨hi.1, by have := hi.2; omega⟩ (by decide) rfl rfl (fun ls hl => ?_)
  refine zl_m C 478 (ct := zC478) (131, 0, 189, 1) zM189 [(2, 205), (0, (xs (i.toInt.toNat + 1)).toInt)] (vs := [.ref am, .int (xs (i.toInt.toNat + 1))]) hX rfl rfl rfl rfl rfl rfl ⟨Nat.le_of_ble_eq_true rfl, Nat.le_of_ble_eq_true rfl⟩ rfl ⟨_, _, rfl⟩ (zsr1 ham (zsi1 (trivial))) (zar1 (zai1 (trivial))) hl.1 (by decide +kernel) rfl (fun H locs hX => ?_)
  refine pv_W hx hb hR 1 1404 (zlv b ax am i) [] rfl hl (fun ls hl => ?_)
  exact next H locs ls hX hl
set_option maxRecDepth 100000 in
theorem zlk28 (C : zLC D ST b0 l B0 Sg p R s m args meth c b ax am L xs nc ns) (hi : 0 ≤ i.toInt ∧ i.toInt + 6 ≤ L) (hX : zLX D b0 B0 Sg s H locs) (hl : lv_has ls 4 (zlv b ax am i)) (next : ∀ (H2 : Heap) (locs2 : List Loc) (ls2 : Array Slot), zLX D b0 B0 Sg s H2 locs2 → lv_has ls2 4 (zlv b ax am i) → W p l e R s m args below meth c H2 locs2 nc ns Q (F0 m 1404 ls2 [])) : W p l e R s m args below meth c H locs nc ns Q (F0 m 1092 ls []) := by
  obtain ⟨-, -, -, -, -, hF, -, -, hax, ham, -, -⟩ := id C
  obtain ⟨hx, hb, -, -, -⟩ := id hF.1
  have hR := zMk0.1
  refine pv_W hx hb hR 1 1093 (zlv b ax am i) [.ref ax] rfl hl (fun ls hl => ?_)
  refine zl_arg C (k := 1) (st := [.ref ax]) hX hl ⟨hi.1, by have := hi.2; omega⟩ (by decide) rfl rfl (fun ls hl => ?_)
  refine zl_arg C (k := 2) (st := [.int (xs (i.toInt.toNat + 1)), .ref ax]) hX hl ⟨hi.1, by have := hi.2; omega⟩ (by decide) rfl rfl (fun ls hl => ?_)
  refine zl_arg C (k := 3) (st := [.int (xs (i.toInt.toNat + 2)), .int (xs (i.toInt.toNat + 1)), .ref ax]) hX hl ⟨hi.1, by have := hi.2; omega⟩ (by decide) rfl rfl (fun ls hl => ?_)
  refine zl_m C 380 (ct := zC380) (132, 0, 97, 3) zM97 [(2, 1), (0, (xs (i.toInt.toNat + 1)).toInt), (0, (xs (i.toInt.toNat + 2)).toInt), (0, (xs (i.toInt.toNat + 3)).toInt)] (vs := [.ref ax, .int (xs (i.toInt.toNat + 1)), .int (xs (i.toInt.toNat + 2)), .int (xs (i.toInt.toNat + 3))]) hX rfl rfl rfl rfl rfl rfl ⟨Nat.le_of_ble_eq_true rfl, Nat.le_of_ble_eq_true rfl⟩ rfl ⟨_, _, rfl⟩ (zsr1 hax (zsi1 (zsi1 (zsi1 (trivial))))) (zar1 (zai1 (zai1 (zai1 (trivial))))) hl.1 (by decide +kernel) rfl (fun H locs hX => ?_)
  refine pv_W hx hb hR 1 1113 (zlv b ax am i) [.ref am] rfl hl (fun ls hl => ?_)
  refine zl_arg C (k := 1) (st := [.ref am]) hX hl ⟨hi.1, by have := hi.2; omega⟩ (by decide) rfl rfl (fun ls hl => ?_)
  refine zl_arg C (k := 2) (st := [.int (xs (i.toInt.toNat + 1)), .ref am]) hX hl ⟨hi.1, by have := hi.2; omega⟩ (by decide) rfl rfl (fun ls hl => ?_)
  refine zl_arg C (k := 3) (st := [.int (xs (i.toInt.toNat + 2)), .int (xs (i.toInt.toNat + 1)), .ref am]) hX hl ⟨hi.1, by have := hi.2; omega⟩ (by decide) rfl rfl (fun ls hl => ?_)
  refine zl_m C 480 (ct := zC480) (135, 0, 190, 3) zM190 [(2, 205), (0, (xs (i.toInt.toNat + 1)).toInt), (0, (xs (i.toInt.toNat + 2)).toInt), (0, (xs (i.toInt.toNat + 3)).toInt)] (vs := [.ref am, .int (xs (i.toInt.toNat + 1)), .int (xs (i.toInt.toNat + 2)), .int (xs (i.toInt.toNat + 3))]) hX rfl rfl rfl rfl rfl rfl ⟨Nat.le_of_ble_eq_true rfl, Nat.le_of_ble_eq_true rfl⟩ rfl ⟨_, _, rfl⟩ (zsr1 ham (zsi1 (zsi1 (zsi1 (trivial))))) (zar1 (zai1 (zai1 (zai1 (trivial))))) hl.1 (by decide +kernel) rfl (fun H locs hX => ?_)
  refine pv_W hx hb hR 1 1404 (zlv b ax am i) [] rfl hl (fun ls hl => ?_)
  exact next H locs ls hX hl
set_option maxRecDepth 100000 in
theorem zlk30 (C : zLC D ST b0 l B0 Sg p R s m args meth c b ax am L xs nc ns) (hi : 0 ≤ i.toInt ∧ i.toInt + 6 ≤ L) (hX : zLX D b0 B0 Sg s H locs) (hl : lv_has ls 4 (zlv b ax am i)) (next : ∀ (H2 : Heap) (locs2 : List Loc) (ls2 : Array Slot), zLX D b0 B0 Sg s H2 locs2 → lv_has ls2 4 (zlv b ax am i) → W p l e R s m args below meth c H2 locs2 nc ns Q (F0 m 1404 ls2 [])) : W p l e R s m args below meth c H locs nc ns Q (F0 m 1168 ls []) := by
  obtain ⟨-, -, -, -, -, hF, -, -, hax, ham, -, -⟩ := id C
  obtain ⟨hx, hb, -, -, -⟩ := id hF.1
  have hR := zMk0.1
  refine pv_W hx hb hR 1 1169 (zlv b ax am i) [.ref ax] rfl hl (fun ls hl => ?_)
  refine zl_arg C (k := 1) (st := [.ref ax]) hX hl ⟨hi.1, by have := hi.2; omega⟩ (by decide) rfl rfl (fun ls hl => ?_)
  refine zl_m C 385 (ct := zC385) (140, 0, 104, 1) zM104 [(2, 1), (0, (xs (i.toInt.toNat + 1)).toInt)] (vs := [.ref ax, .int (xs (i.toInt.toNat + 1))]) hX rfl rfl rfl rfl rfl rfl ⟨Nat.le_of_ble_eq_true rfl, Nat.le_of_ble_eq_true rfl⟩ rfl ⟨_, _, rfl⟩ (zsr1 hax (zsi1 (trivial))) (zar1 (zai1 (trivial))) hl.1 (by decide +kernel) rfl (fun H locs hX => ?_)
  refine pv_W hx hb hR 1 1179 (zlv b ax am i) [.ref am] rfl hl (fun ls hl => ?_)
  refine zl_arg C (k := 1) (st := [.ref am]) hX hl ⟨hi.1, by have := hi.2; omega⟩ (by decide) rfl rfl (fun ls hl => ?_)
  refine zl_m C 483 (ct := zC483) (143, 0, 193, 1) zM193 [(2, 205), (0, (xs (i.toInt.toNat + 1)).toInt)] (vs := [.ref am, .int (xs (i.toInt.toNat + 1))]) hX rfl rfl rfl rfl rfl rfl ⟨Nat.le_of_ble_eq_true rfl, Nat.le_of_ble_eq_true rfl⟩ rfl ⟨_, _, rfl⟩ (zsr1 ham (zsi1 (trivial))) (zar1 (zai1 (trivial))) hl.1 (by decide +kernel) rfl (fun H locs hX => ?_)
  refine pv_W hx hb hR 1 1404 (zlv b ax am i) [] rfl hl (fun ls hl => ?_)
  exact next H locs ls hX hl
set_option maxRecDepth 100000 in
theorem zlk31 (C : zLC D ST b0 l B0 Sg p R s m args meth c b ax am L xs nc ns) (hi : 0 ≤ i.toInt ∧ i.toInt + 6 ≤ L) (hX : zLX D b0 B0 Sg s H locs) (hl : lv_has ls 4 (zlv b ax am i)) (next : ∀ (H2 : Heap) (locs2 : List Loc) (ls2 : Array Slot), zLX D b0 B0 Sg s H2 locs2 → lv_has ls2 4 (zlv b ax am i) → W p l e R s m args below meth c H2 locs2 nc ns Q (F0 m 1404 ls2 [])) : W p l e R s m args below meth c H locs nc ns Q (F0 m 1191 ls []) := by
  obtain ⟨-, -, -, -, -, hF, -, -, hax, ham, -, -⟩ := id C
  obtain ⟨hx, hb, -, -, -⟩ := id hF.1
  have hR := zMk0.1
  refine pv_W hx hb hR 1 1192 (zlv b ax am i) [.ref ax] rfl hl (fun ls hl => ?_)
  refine zl_arg C (k := 1) (st := [.ref ax]) hX hl ⟨hi.1, by have := hi.2; omega⟩ (by decide) rfl rfl (fun ls hl => ?_)
  refine zl_m C 388 (ct := zC388) (144, 0, 105, 1) zM105 [(2, 1), (0, (xs (i.toInt.toNat + 1)).toInt)] (vs := [.ref ax, .int (xs (i.toInt.toNat + 1))]) hX rfl rfl rfl rfl rfl rfl ⟨Nat.le_of_ble_eq_true rfl, Nat.le_of_ble_eq_true rfl⟩ rfl ⟨_, _, rfl⟩ (zsr1 hax (zsi1 (trivial))) (zar1 (zai1 (trivial))) hl.1 (by decide +kernel) rfl (fun H locs hX => ?_)
  refine pv_W hx hb hR 1 1202 (zlv b ax am i) [.ref am] rfl hl (fun ls hl => ?_)
  refine zl_arg C (k := 1) (st := [.ref am]) hX hl ⟨hi.1, by have := hi.2; omega⟩ (by decide) rfl rfl (fun ls hl => ?_)
  refine zl_m C 485 (ct := zC485) (147, 0, 194, 1) zM194 [(2, 205), (0, (xs (i.toInt.toNat + 1)).toInt)] (vs := [.ref am, .int (xs (i.toInt.toNat + 1))]) hX rfl rfl rfl rfl rfl rfl ⟨Nat.le_of_ble_eq_true rfl, Nat.le_of_ble_eq_true rfl⟩ rfl ⟨_, _, rfl⟩ (zsr1 ham (zsi1 (trivial))) (zar1 (zai1 (trivial))) hl.1 (by decide +kernel) rfl (fun H locs hX => ?_)
  refine pv_W hx hb hR 1 1404 (zlv b ax am i) [] rfl hl (fun ls hl => ?_)
  exact next H locs ls hX hl
set_option maxRecDepth 100000 in
theorem zlk32 (C : zLC D ST b0 l B0 Sg p R s m args meth c b ax am L xs nc ns) (hi : 0 ≤ i.toInt ∧ i.toInt + 6 ≤ L) (hX : zLX D b0 B0 Sg s H locs) (hl : lv_has ls 4 (zlv b ax am i)) (next : ∀ (H2 : Heap) (locs2 : List Loc) (ls2 : Array Slot), zLX D b0 B0 Sg s H2 locs2 → lv_has ls2 4 (zlv b ax am i) → W p l e R s m args below meth c H2 locs2 nc ns Q (F0 m 1404 ls2 [])) : W p l e R s m args below meth c H locs nc ns Q (F0 m 1214 ls []) := by
  obtain ⟨-, -, -, -, -, hF, -, -, hax, ham, -, -⟩ := id C
  obtain ⟨hx, hb, -, -, -⟩ := id hF.1
  have hR := zMk0.1
  refine pv_W hx hb hR 1 1215 (zlv b ax am i) [.ref ax] rfl hl (fun ls hl => ?_)
  refine zl_arg C (k := 1) (st := [.ref ax]) hX hl ⟨hi.1, by have := hi.2; omega⟩ (by decide) rfl rfl (fun ls hl => ?_)
  refine zl_m C 390 (ct := zC390) (148, 0, 108, 1) zM108 [(2, 1), (0, (xs (i.toInt.toNat + 1)).toInt)] (vs := [.ref ax, .int (xs (i.toInt.toNat + 1))]) hX rfl rfl rfl rfl rfl rfl ⟨Nat.le_of_ble_eq_true rfl, Nat.le_of_ble_eq_true rfl⟩ rfl ⟨_, _, rfl⟩ (zsr1 hax (zsi1 (trivial))) (zar1 (zai1 (trivial))) hl.1 (by decide +kernel) rfl (fun H locs hX => ?_)
  refine pv_W hx hb hR 1 1225 (zlv b ax am i) [.ref am] rfl hl (fun ls hl => ?_)
  refine zl_arg C (k := 1) (st := [.ref am]) hX hl ⟨hi.1, by have := hi.2; omega⟩ (by decide) rfl rfl (fun ls hl => ?_)
  refine zl_m C 486 (ct := zC486) (151, 0, 196, 1) zM196 [(2, 205), (0, (xs (i.toInt.toNat + 1)).toInt)] (vs := [.ref am, .int (xs (i.toInt.toNat + 1))]) hX rfl rfl rfl rfl rfl rfl ⟨Nat.le_of_ble_eq_true rfl, Nat.le_of_ble_eq_true rfl⟩ rfl ⟨_, _, rfl⟩ (zsr1 ham (zsi1 (trivial))) (zar1 (zai1 (trivial))) hl.1 (by decide +kernel) rfl (fun H locs hX => ?_)
  refine pv_W hx hb hR 1 1404 (zlv b ax am i) [] rfl hl (fun ls hl => ?_)
  exact next H locs ls hX hl
set_option maxRecDepth 100000 in
theorem zlk33 (C : zLC D ST b0 l B0 Sg p R s m args meth c b ax am L xs nc ns) (hi : 0 ≤ i.toInt ∧ i.toInt + 6 ≤ L) (hX : zLX D b0 B0 Sg s H locs) (hl : lv_has ls 4 (zlv b ax am i)) (next : ∀ (H2 : Heap) (locs2 : List Loc) (ls2 : Array Slot), zLX D b0 B0 Sg s H2 locs2 → lv_has ls2 4 (zlv b ax am i) → W p l e R s m args below meth c H2 locs2 nc ns Q (F0 m 1404 ls2 [])) : W p l e R s m args below meth c H locs nc ns Q (F0 m 1237 ls []) := by
  obtain ⟨-, -, -, -, -, hF, -, -, hax, ham, -, -⟩ := id C
  obtain ⟨hx, hb, -, -, -⟩ := id hF.1
  have hR := zMk0.1
  refine pv_W hx hb hR 1 1238 (zlv b ax am i) [.ref ax] rfl hl (fun ls hl => ?_)
  refine zl_arg C (k := 1) (st := [.ref ax]) hX hl ⟨hi.1, by have := hi.2; omega⟩ (by decide) rfl rfl (fun ls hl => ?_)
  refine zl_arg C (k := 2) (st := [.int (xs (i.toInt.toNat + 1)), .ref ax]) hX hl ⟨hi.1, by have := hi.2; omega⟩ (by decide) rfl rfl (fun ls hl => ?_)
  refine zl_m C 393 (ct := zC393) (152, 0, 110, 2) zM110 [(2, 1), (0, (xs (i.toInt.toNat + 1)).toInt), (0, (xs (i.toInt.toNat + 2)).toInt)] (vs := [.ref ax, .int (xs (i.toInt.toNat + 1)), .int (xs (i.toInt.toNat + 2))]) hX rfl rfl rfl rfl rfl rfl ⟨Nat.le_of_ble_eq_true rfl, Nat.le_of_ble_eq_true rfl⟩ rfl ⟨_, _, rfl⟩ (zsr1 hax (zsi1 (zsi1 (trivial)))) (zar1 (zai1 (zai1 (trivial)))) hl.1 (by decide +kernel) rfl (fun H locs hX => ?_)
  refine pv_W hx hb hR 1 1253 (zlv b ax am i) [.ref am] rfl hl (fun ls hl => ?_)
  refine zl_arg C (k := 1) (st := [.ref am]) hX hl ⟨hi.1, by have := hi.2; omega⟩ (by decide) rfl rfl (fun ls hl => ?_)
  refine zl_arg C (k := 2) (st := [.int (xs (i.toInt.toNat + 1)), .ref am]) hX hl ⟨hi.1, by have := hi.2; omega⟩ (by decide) rfl rfl (fun ls hl => ?_)
  refine zl_m C 489 (ct := zC489) (155, 0, 198, 2) zM198 [(2, 205), (0, (xs (i.toInt.toNat + 1)).toInt), (0, (xs (i.toInt.toNat + 2)).toInt)] (vs := [.ref am, .int (xs (i.toInt.toNat + 1)), .int (xs (i.toInt.toNat + 2))]) hX rfl rfl rfl rfl rfl rfl ⟨Nat.le_of_ble_eq_true rfl, Nat.le_of_ble_eq_true rfl⟩ rfl ⟨_, _, rfl⟩ (zsr1 ham (zsi1 (zsi1 (trivial)))) (zar1 (zai1 (zai1 (trivial)))) hl.1 (by decide +kernel) rfl (fun H locs hX => ?_)
  refine pv_W hx hb hR 1 1404 (zlv b ax am i) [] rfl hl (fun ls hl => ?_)
  exact next H locs ls hX hl
set_option maxRecDepth 100000 in
theorem zlk34 (C : zLC D ST b0 l B0 Sg p R s m args meth c b ax am L xs nc ns) (hi : 0 ≤ i.toInt ∧ i.toInt + 6 ≤ L) (hX : zLX D b0 B0 Sg s H locs) (hl : lv_has ls 4 (zlv b ax am i)) (next : ∀ (H2 : Heap) (locs2 : List Loc) (ls2 : Array Slot), zLX D b0 B0 Sg s H2 locs2 → lv_has ls2 4 (zlv b ax am i) → W p l e R s m args below meth c H2 locs2 nc ns Q (F0 m 1404 ls2 [])) : W p l e R s m args below meth c H locs nc ns Q (F0 m 1270 ls []) := by
  obtain ⟨-, -, -, -, -, hF, -, -, hax, ham, -, -⟩ := id C
  obtain ⟨hx, hb, -, -, -⟩ := id hF.1
  have hR := zMk0.1
  refine pv_W hx hb hR 1 1271 (zlv b ax am i) [.ref ax] rfl hl (fun ls hl => ?_)
  refine zl_arg C (k := 1) (st := [.ref ax]) hX hl ⟨hi.1, by have := hi.2; omega⟩ (by decide) rfl rfl (fun ls hl => ?_)
  refine zl_m C 394 (ct := zC394) (156, 0, 112, 1) zM112 [(2, 1), (0, (xs (i.toInt.toNat + 1)).toInt)] (vs := [.ref ax, .int (xs (i.toInt.toNat + 1))]) hX rfl rfl rfl rfl rfl rfl ⟨Nat.le_of_ble_eq_true rfl, Nat.le_of_ble_eq_true rfl⟩ rfl ⟨_, _, rfl⟩ (zsr1 hax (zsi1 (trivial))) (zar1 (zai1 (trivial))) hl.1 (by decide +kernel) rfl (fun H locs hX => ?_)
  refine pv_W hx hb hR 1 1281 (zlv b ax am i) [.ref am] rfl hl (fun ls hl => ?_)
  refine zl_arg C (k := 1) (st := [.ref am]) hX hl ⟨hi.1, by have := hi.2; omega⟩ (by decide) rfl rfl (fun ls hl => ?_)
  refine zl_m C 490 (ct := zC490) (159, 0, 200, 1) zM200 [(2, 205), (0, (xs (i.toInt.toNat + 1)).toInt)] (vs := [.ref am, .int (xs (i.toInt.toNat + 1))]) hX rfl rfl rfl rfl rfl rfl ⟨Nat.le_of_ble_eq_true rfl, Nat.le_of_ble_eq_true rfl⟩ rfl ⟨_, _, rfl⟩ (zsr1 ham (zsi1 (trivial))) (zar1 (zai1 (trivial))) hl.1 (by decide +kernel) rfl (fun H locs hX => ?_)
  refine pv_W hx hb hR 1 1404 (zlv b ax am i) [] rfl hl (fun ls hl => ?_)
  exact next H locs ls hX hl
set_option maxRecDepth 100000 in
theorem zlk35 (C : zLC D ST b0 l B0 Sg p R s m args meth c b ax am L xs nc ns) (hi : 0 ≤ i.toInt ∧ i.toInt + 6 ≤ L) (hX : zLX D b0 B0 Sg s H locs) (hl : lv_has ls 4 (zlv b ax am i)) (next : ∀ (H2 : Heap) (locs2 : List Loc) (ls2 : Array Slot), zLX D b0 B0 Sg s H2 locs2 → lv_has ls2 4 (zlv b ax am i) → W p l e R s m args below meth c H2 locs2 nc ns Q (F0 m 1404 ls2 [])) : W p l e R s m args below meth c H locs nc ns Q (F0 m 1293 ls []) := by
  obtain ⟨-, -, -, -, -, hF, -, -, hax, ham, -, -⟩ := id C
  obtain ⟨hx, hb, -, -, -⟩ := id hF.1
  have hR := zMk0.1
  refine pv_W hx hb hR 1 1294 (zlv b ax am i) [.ref ax] rfl hl (fun ls hl => ?_)
  refine zl_m C 396 (ct := zC396) (160, 0, 113, 0) zM113 [(2, 1)] (vs := [.ref ax]) hX rfl rfl rfl rfl rfl rfl ⟨Nat.le_of_ble_eq_true rfl, Nat.le_of_ble_eq_true rfl⟩ rfl ⟨_, _, rfl⟩ (zsr1 hax (trivial)) (zar1 (trivial)) hl.1 (by decide +kernel) rfl (fun H locs hX => ?_)
  refine pv_W hx hb hR 1 1299 (zlv b ax am i) [.ref am] rfl hl (fun ls hl => ?_)
  refine zl_m C 491 (ct := zC491) (164, 0, 201, 0) zM201 [(2, 205)] (vs := [.ref am]) hX rfl rfl rfl rfl rfl rfl ⟨Nat.le_of_ble_eq_true rfl, Nat.le_of_ble_eq_true rfl⟩ rfl ⟨_, _, rfl⟩ (zsr1 ham (trivial)) (zar1 (trivial)) hl.1 (by decide +kernel) rfl (fun H locs hX => ?_)
  refine pv_W hx hb hR 1 1404 (zlv b ax am i) [] rfl hl (fun ls hl => ?_)
  exact next H locs ls hX hl
set_option maxRecDepth 100000 in
theorem zlk36 (C : zLC D ST b0 l B0 Sg p R s m args meth c b ax am L xs nc ns) (hi : 0 ≤ i.toInt ∧ i.toInt + 6 ≤ L) (hX : zLX D b0 B0 Sg s H locs) (hl : lv_has ls 4 (zlv b ax am i)) (next : ∀ (H2 : Heap) (locs2 : List Loc) (ls2 : Array Slot), zLX D b0 B0 Sg s H2 locs2 → lv_has ls2 4 (zlv b ax am i) → W p l e R s m args below meth c H2 locs2 nc ns Q (F0 m 1404 ls2 [])) : W p l e R s m args below meth c H locs nc ns Q (F0 m 1306 ls []) := by
  obtain ⟨-, -, -, -, -, hF, -, -, hax, ham, -, -⟩ := id C
  obtain ⟨hx, hb, -, -, -⟩ := id hF.1
  have hR := zMk0.1
  refine pv_W hx hb hR 1 1307 (zlv b ax am i) [.ref ax] rfl hl (fun ls hl => ?_)
  refine zl_arg C (k := 1) (st := [.ref ax]) hX hl ⟨hi.1, by have := hi.2; omega⟩ (by decide) rfl rfl (fun ls hl => ?_)
  refine zl_m C 398 (ct := zC398) (165, 0, 115, 1) zM115 [(2, 1), (0, (xs (i.toInt.toNat + 1)).toInt)] (vs := [.ref ax, .int (xs (i.toInt.toNat + 1))]) hX rfl rfl rfl rfl rfl rfl ⟨Nat.le_of_ble_eq_true rfl, Nat.le_of_ble_eq_true rfl⟩ rfl ⟨_, _, rfl⟩ (zsr1 hax (zsi1 (trivial))) (zar1 (zai1 (trivial))) hl.1 (by decide +kernel) rfl (fun H locs hX => ?_)
  refine pv_W hx hb hR 1 1317 (zlv b ax am i) [.ref am] rfl hl (fun ls hl => ?_)
  refine zl_arg C (k := 1) (st := [.ref am]) hX hl ⟨hi.1, by have := hi.2; omega⟩ (by decide) rfl rfl (fun ls hl => ?_)
  refine zl_m C 492 (ct := zC492) (168, 0, 202, 1) zM202 [(2, 205), (0, (xs (i.toInt.toNat + 1)).toInt)] (vs := [.ref am, .int (xs (i.toInt.toNat + 1))]) hX rfl rfl rfl rfl rfl rfl ⟨Nat.le_of_ble_eq_true rfl, Nat.le_of_ble_eq_true rfl⟩ rfl ⟨_, _, rfl⟩ (zsr1 ham (zsi1 (trivial))) (zar1 (zai1 (trivial))) hl.1 (by decide +kernel) rfl (fun H locs hX => ?_)
  refine pv_W hx hb hR 1 1404 (zlv b ax am i) [] rfl hl (fun ls hl => ?_)
  exact next H locs ls hX hl
set_option maxRecDepth 100000 in
theorem zlk37 (C : zLC D ST b0 l B0 Sg p R s m args meth c b ax am L xs nc ns) (hi : 0 ≤ i.toInt ∧ i.toInt + 6 ≤ L) (hX : zLX D b0 B0 Sg s H locs) (hl : lv_has ls 4 (zlv b ax am i)) (next : ∀ (H2 : Heap) (locs2 : List Loc) (ls2 : Array Slot), zLX D b0 B0 Sg s H2 locs2 → lv_has ls2 4 (zlv b ax am i) → W p l e R s m args below meth c H2 locs2 nc ns Q (F0 m 1404 ls2 [])) : W p l e R s m args below meth c H locs nc ns Q (F0 m 1329 ls []) := by
  obtain ⟨-, -, -, -, -, hF, -, -, hax, ham, -, -⟩ := id C
  obtain ⟨hx, hb, -, -, -⟩ := id hF.1
  have hR := zMk0.1
  refine pv_W hx hb hR 1 1330 (zlv b ax am i) [.ref ax] rfl hl (fun ls hl => ?_)
  refine zl_m C 400 (ct := zC400) (169, 0, 117, 0) zM117 [(2, 1)] (vs := [.ref ax]) hX rfl rfl rfl rfl rfl rfl ⟨Nat.le_of_ble_eq_true rfl, Nat.le_of_ble_eq_true rfl⟩ rfl ⟨_, _, rfl⟩ (zsr1 hax (trivial)) (zar1 (trivial)) hl.1 (by decide +kernel) rfl (fun H locs hX => ?_)
  refine pv_W hx hb hR 1 1335 (zlv b ax am i) [.ref am] rfl hl (fun ls hl => ?_)
  refine zl_m C 423 (ct := zC423) (173, 0, 126, 0) zM126 [(2, 205)] (vs := [.ref am]) hX rfl rfl rfl rfl rfl rfl ⟨Nat.le_of_ble_eq_true rfl, Nat.le_of_ble_eq_true rfl⟩ rfl ⟨_, _, rfl⟩ (zsr1 ham (trivial)) (zar1 (trivial)) hl.1 (by decide +kernel) rfl (fun H locs hX => ?_)
  refine pv_W hx hb hR 1 1404 (zlv b ax am i) [] rfl hl (fun ls hl => ?_)
  exact next H locs ls hX hl
set_option maxRecDepth 100000 in
theorem zlk39 (C : zLC D ST b0 l B0 Sg p R s m args meth c b ax am L xs nc ns) (hi : 0 ≤ i.toInt ∧ i.toInt + 6 ≤ L) (hX : zLX D b0 B0 Sg s H locs) (hl : lv_has ls 4 (zlv b ax am i)) (next : ∀ (H2 : Heap) (locs2 : List Loc) (ls2 : Array Slot), zLX D b0 B0 Sg s H2 locs2 → lv_has ls2 4 (zlv b ax am i) → W p l e R s m args below meth c H2 locs2 nc ns Q (F0 m 1404 ls2 [])) : W p l e R s m args below meth c H locs nc ns Q (F0 m 1381 ls []) := by
  obtain ⟨-, -, -, -, -, hF, -, -, hax, ham, -, -⟩ := id C
  obtain ⟨hx, hb, -, -, -⟩ := id hF.1
  have hR := zMk0.1
  refine pv_W hx hb hR 1 1382 (zlv b ax am i) [.ref ax] rfl hl (fun ls hl => ?_)
  refine zl_arg C (k := 1) (st := [.ref ax]) hX hl ⟨hi.1, by have := hi.2; omega⟩ (by decide) rfl rfl (fun ls hl => ?_)
  refine zl_m C 422 (ct := zC422) (179, 0, 122, 1) zM122 [(2, 1), (0, (xs (i.toInt.toNat + 1)).toInt)] (vs := [.ref ax, .int (xs (i.toInt.toNat + 1))]) hX rfl rfl rfl rfl rfl rfl ⟨Nat.le_of_ble_eq_true rfl, Nat.le_of_ble_eq_true rfl⟩ rfl ⟨_, _, rfl⟩ (zsr1 hax (zsi1 (trivial))) (zar1 (zai1 (trivial))) hl.1 (by decide +kernel) rfl (fun H locs hX => ?_)
  refine pv_W hx hb hR 1 1392 (zlv b ax am i) [.ref am] rfl hl (fun ls hl => ?_)
  refine zl_arg C (k := 1) (st := [.ref am]) hX hl ⟨hi.1, by have := hi.2; omega⟩ (by decide) rfl rfl (fun ls hl => ?_)
  refine zl_m C 495 (ct := zC495) (182, 0, 208, 1) zM208 [(2, 205), (0, (xs (i.toInt.toNat + 1)).toInt)] (vs := [.ref am, .int (xs (i.toInt.toNat + 1))]) hX rfl rfl rfl rfl rfl rfl ⟨Nat.le_of_ble_eq_true rfl, Nat.le_of_ble_eq_true rfl⟩ rfl ⟨_, _, rfl⟩ (zsr1 ham (zsi1 (trivial))) (zar1 (zai1 (trivial))) hl.1 (by decide +kernel) rfl (fun H locs hX => ?_)
  refine pv_W hx hb hR 1 1404 (zlv b ax am i) [] rfl hl (fun ls hl => ?_)
  exact next H locs ls hX hl
end LK
