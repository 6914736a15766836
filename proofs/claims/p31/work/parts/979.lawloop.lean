/-! the law's case that compares; the law's loop (printed by wip/p30/mk979.py) -/
section LK3
variable {D : va_G} {ST : List (String × String × String × Nat)} {b0 : sx_B} {l : Launch} {B0 : Nat → Prop} {Sg : Nat → Option Nat} {p : Program} {e : Env} {R : Room} {s : State} {m : MethodId} {args : Array Value} {below : List Frame} {meth : Method} {c : Code} {b ax am L : Nat} {xs : Nat → Int32} {nc ns : Nat} {Q : State → Prop} {H : Heap} {locs : List Loc} {ls : Array Slot} {i : Int32}

set_option maxRecDepth 100000 in
theorem zlk29 (C : zLC D ST b0 l B0 Sg p R s m args meth c b ax am L xs nc ns) (hi : 0 ≤ i.toInt ∧ i.toInt + 6 ≤ L) (hX : zLX D b0 B0 Sg s H locs) (hl : lv_has ls 4 (zlv b ax am i)) (next : ∀ (H2 : Heap) (locs2 : List Loc) (ls2 : Array Slot), zLX D b0 B0 Sg s H2 locs2 → lv_has ls2 4 (zlv b ax am i) → W p l e R s m args below meth c H2 locs2 nc ns Q (F0 m 1404 ls2 [])) (hG : ∀ q ∈ zGT, sx_gtok zCDs (zAS ST) zTB Sg q) : W p l e R s m args below meth c H locs nc ns Q (F0 m 1135 ls []) := by
  have hhi := hi.2
  obtain ⟨hK, hw, hB, hB0, hCt, hF, -, -, hax, ham, hnc, hns⟩ := id C
  obtain ⟨hx, hb, -, -, -⟩ := id hF.1
  have hR := zMk0.1
  refine pv_W hx hb hR 1 1136 (zlv b ax am i) [.ref ax] rfl hl (fun ls hl => ?_)
  refine zl_arg C (k := 1) (st := [.ref ax]) hX hl ⟨hi.1, by omega⟩ (by decide) rfl rfl (fun ls hl => ?_)
  refine zl_arg C (k := 2) (st := [.int (xs (i.toInt.toNat + 1)), .ref ax]) hX hl ⟨hi.1, by omega⟩ (by decide) rfl rfl (fun ls hl => ?_)
  obtain ⟨μ, hS, hV, he, he2⟩ := id hX
  refine zl_hd (Wm := 12855504354071922204335696738729300820177623950262342682411008) (bf := 3) (bl := 67) (rest := []) hK hw hB hB0 (136, 0, 100, 2) zM100 [(2, 1), (0, (xs (i.toInt.toNat + 1)).toInt), (0, (xs (i.toInt.toNat + 2)).toInt)] (vs := [.ref ax, .int (xs (i.toInt.toNat + 1)), .int (xs (i.toInt.toNat + 2))]) (zh_yearx hK (zin32 _) hS.2.2 hG ⟨Nat.le_refl _, Nat.le_refl _⟩) hF rfl rfl rfl rfl ⟨Nat.le_of_ble_eq_true rfl, Nat.le_of_ble_eq_true rfl⟩ (zsr1 hax (zsi1 (zsi1 trivial))) (Nat.zero_le _) hnc hns hl.1 hS hV (fun st' μ' h => h.1) (fun vo st' μ1 H locs hP hst hS2 hV2 hfr1 => ?_)
  obtain ⟨-, rfl⟩ := hP
  obtain ⟨v, t, e1, k1, k2⟩ := pm_S_cons hst
  obtain rfl := pm_S_nil k2
  obtain ⟨y1, rfl, hy1⟩ := pm_v_int k1 rfl
  rw [e1]
  obtain ⟨he, he2⟩ := zEQ_fr (V := 12855504354071922204335696738729300820177623950262342682411008) (by decide +kernel) _ _ ⟨he, he2⟩ trivial hfr1
  have hX : zLX D b0 B0 Sg s H locs := ⟨μ1, hS2, hV2, he, he2⟩
  refine pv_W hx hb hR 1 1150 (zlv b ax am i) [.ref am, .int y1] rfl hl (fun ls hl => ?_)
  refine zl_arg C (k := 1) (st := [.ref am, .int y1]) hX hl ⟨hi.1, by omega⟩ (by decide) rfl rfl (fun ls hl => ?_)
  refine zl_arg C (k := 2) (st := [.int (xs (i.toInt.toNat + 1)), .ref am, .int y1]) hX hl ⟨hi.1, by omega⟩ (by decide) rfl rfl (fun ls hl => ?_)
  refine zl_hd (Wm := 1766847064829806346999585189560261302782401100156329453922655572022263808) (bf := 3) (bl := 65) (rest := [.int y1]) hK hw hB hB0 (139, 0, 192, 2) zM192 [(2, 205), (0, (xs (i.toInt.toNat + 1)).toInt), (0, (xs (i.toInt.toNat + 2)).toInt)] (vs := [.ref am, .int (xs (i.toInt.toNat + 1)), .int (xs (i.toInt.toNat + 2))]) (zh_yearm hK (zin32 _) hS2.2.2 (by decide +kernel) (by decide +kernel) ⟨Nat.le_refl _, Nat.le_refl _⟩) hF rfl rfl rfl rfl ⟨Nat.le_of_ble_eq_true rfl, Nat.le_of_ble_eq_true rfl⟩ (zsr1 ham (zsi1 (zsi1 trivial))) (Nat.le_of_ble_eq_true rfl) hnc hns hl.1 hS2 hV2 (fun st' μ' h => h.1) (fun vo st' μ2 H locs hP hst hS3 hV3 hfr => ?_)
  obtain ⟨-, rfl⟩ := hP
  obtain ⟨v, t, e2, k3, k4⟩ := pm_S_cons hst
  obtain rfl := pm_S_nil k4
  obtain ⟨y2, rfl, hy2⟩ := pm_v_int k3 rfl
  rw [e2]
  have hy : y1.toInt = y2.toInt := hy1.trans hy2.symm
  obtain ⟨n1, n2⟩ := zEQ_fr (V := 1766847064829806346999585189560261302782401100156329453922655572022263808) (by decide +kernel) _ _ ⟨he, he2⟩ trivial hfr
  refine pv_icmp hF.1 hR .eq 241 1404 rfl rfl (fun _ => ?_) (fun h => absurd hy (show y1.toInt ≠ y2.toInt from h))
  exact next H locs ls ⟨μ2, hS3, hV3, n1, n2⟩ hl
theorem zand63 (x : Int32) : 0 ≤ (x &&& (Int8.ofInt 63).toInt32).toInt ∧ (x &&& (Int8.ofInt 63).toInt32).toInt ≤ 63 := by
  have e : (x &&& (Int8.ofInt 63).toInt32).toBitVec = x.toBitVec &&& 63#32 := by
    rw [Int32.toBitVec_and]
    rfl
  have h : (x.toBitVec &&& 63#32).toNat ≤ 63 := by
    rw [BitVec.toNat_and]
    exact Nat.and_le_right
  have e2 : (x &&& (Int8.ofInt 63).toInt32).toInt = ((x.toBitVec &&& 63#32).toNat : Int) := by
    show (x &&& (Int8.ofInt 63).toInt32).toBitVec.toInt = _
    rw [e, BitVec.toInt_eq_toNat_cond, if_pos (by omega)]
  omega
set_option maxRecDepth 100000 in
theorem zlswitch {x : Int32} (hx0 : 0 ≤ x.toInt ∧ x.toInt ≤ 63) (C : zLC D ST b0 l B0 Sg p R s m args meth c b ax am L xs nc ns) (hi : 0 ≤ i.toInt ∧ i.toInt + 6 ≤ L) (hX : zLX D b0 B0 Sg s H locs) (hl : lv_has ls 4 (zlv b ax am i)) (next : ∀ (H2 : Heap) (locs2 : List Loc) (ls2 : Array Slot), zLX D b0 B0 Sg s H2 locs2 → lv_has ls2 4 (zlv b ax am i) → W p l e R s m args below meth c H2 locs2 nc ns Q (F0 m 1404 ls2 [])) (hG : ∀ q ∈ zGT, sx_gtok zCDs (zAS ST) zTB Sg q) : W p l e R s m args below meth c H locs nc ns Q (F0 m 33 ls [.int x]) := by
  obtain ⟨-, -, -, -, -, hF, -, -, -, -, -, -⟩ := id C
  obtain ⟨hx, hb, -, -, -⟩ := id hF.1
  have hR := zMk0.1
  by_cases h40 : 40 ≤ x.toInt
  · refine lv_tableOut hx hb (pv_row hR rfl) (Or.inr (by omega)) (tgt := 1404) (by decide) ?_
    exact next H locs ls hX hl
  have hh : x.toInt = 0 ∨ x.toInt = 1 ∨ x.toInt = 2 ∨ x.toInt = 3 ∨ x.toInt = 4 ∨ x.toInt = 5 ∨ x.toInt = 6 ∨ x.toInt = 7 ∨ x.toInt = 8 ∨ x.toInt = 9 ∨ x.toInt = 10 ∨ x.toInt = 11 ∨ x.toInt = 12 ∨ x.toInt = 13 ∨ x.toInt = 14 ∨ x.toInt = 15 ∨ x.toInt = 16 ∨ x.toInt = 17 ∨ x.toInt = 18 ∨ x.toInt = 19 ∨ x.toInt = 20 ∨ x.toInt = 21 ∨ x.toInt = 22 ∨ x.toInt = 23 ∨ x.toInt = 24 ∨ x.toInt = 25 ∨ x.toInt = 26 ∨ x.toInt = 27 ∨ x.toInt = 28 ∨ x.toInt = 29 ∨ x.toInt = 30 ∨ x.toInt = 31 ∨ x.toInt = 32 ∨ x.toInt = 33 ∨ x.toInt = 34 ∨ x.toInt = 35 ∨ x.toInt = 36 ∨ x.toInt = 37 ∨ x.toInt = 38 ∨ x.toInt = 39 := by omega
  rcases hh with h | h | h | h | h | h | h | h | h | h | h | h | h | h | h | h | h | h | h | h | h | h | h | h | h | h | h | h | h | h | h | h | h | h | h | h | h | h | h | h
  · refine lv_tableIn hx hb (pv_row hR rfl) (by omega) (by omega) (off := 175) (tgt := 208) (by rw [h]; rfl) (by decide) ?_
    exact zlk0 C hi hX hl next
  · refine lv_tableIn hx hb (pv_row hR rfl) (by omega) (by omega) (off := 198) (tgt := 231) (by rw [h]; rfl) (by decide) ?_
    exact zlk1 C hi hX hl next
  · refine lv_tableIn hx hb (pv_row hR rfl) (by omega) (by omega) (off := 231) (tgt := 264) (by rw [h]; rfl) (by decide) ?_
    exact zlk2 C hi hX hl next
  · refine lv_tableIn hx hb (pv_row hR rfl) (by omega) (by omega) (off := 264) (tgt := 297) (by rw [h]; rfl) (by decide) ?_
    exact zlk3 C hi hX hl next
  · refine lv_tableIn hx hb (pv_row hR rfl) (by omega) (by omega) (off := 307) (tgt := 340) (by rw [h]; rfl) (by decide) ?_
    exact zlk4 C hi hX hl next
  · refine lv_tableIn hx hb (pv_row hR rfl) (by omega) (by omega) (off := 350) (tgt := 383) (by rw [h]; rfl) (by decide) ?_
    exact zlk5 C hi hX hl next
  · refine lv_tableIn hx hb (pv_row hR rfl) (by omega) (by omega) (off := 373) (tgt := 406) (by rw [h]; rfl) (by decide) ?_
    exact zlk6 C hi hX hl next
  · refine lv_tableIn hx hb (pv_row hR rfl) (by omega) (by omega) (off := 436) (tgt := 469) (by rw [h]; rfl) (by decide) ?_
    exact zlk7 C hi hX hl next
  · refine lv_tableIn hx hb (pv_row hR rfl) (by omega) (by omega) (off := 459) (tgt := 492) (by rw [h]; rfl) (by decide) ?_
    exact zlk8 C hi hX hl next
  · refine lv_tableIn hx hb (pv_row hR rfl) (by omega) (by omega) (off := 482) (tgt := 515) (by rw [h]; rfl) (by decide) ?_
    exact zlk9 C hi hX hl next
  · refine lv_tableIn hx hb (pv_row hR rfl) (by omega) (by omega) (off := 505) (tgt := 538) (by rw [h]; rfl) (by decide) ?_
    exact zlk10 C hi hX hl next
  · refine lv_tableIn hx hb (pv_row hR rfl) (by omega) (by omega) (off := 538) (tgt := 571) (by rw [h]; rfl) (by decide) ?_
    exact zlk11 C hi hX hl next
  · refine lv_tableIn hx hb (pv_row hR rfl) (by omega) (by omega) (off := 571) (tgt := 604) (by rw [h]; rfl) (by decide) ?_
    exact zlk12 C hi hX hl next
  · refine lv_tableIn hx hb (pv_row hR rfl) (by omega) (by omega) (off := 604) (tgt := 637) (by rw [h]; rfl) (by decide) ?_
    exact zlk13 C hi hX hl next
  · refine lv_tableIn hx hb (pv_row hR rfl) (by omega) (by omega) (off := 637) (tgt := 670) (by rw [h]; rfl) (by decide) ?_
    exact zlk14 C hi hX hl next
  · refine lv_tableIn hx hb (pv_row hR rfl) (by omega) (by omega) (off := 660) (tgt := 693) (by rw [h]; rfl) (by decide) ?_
    exact zlk15 C hi hX hl next
  · refine lv_tableIn hx hb (pv_row hR rfl) (by omega) (by omega) (off := 693) (tgt := 726) (by rw [h]; rfl) (by decide) ?_
    exact zlk16 C hi hX hl next
  · refine lv_tableIn hx hb (pv_row hR rfl) (by omega) (by omega) (off := 716) (tgt := 749) (by rw [h]; rfl) (by decide) ?_
    exact zlk17 C hi hX hl next
  · refine lv_tableIn hx hb (pv_row hR rfl) (by omega) (by omega) (off := 749) (tgt := 782) (by rw [h]; rfl) (by decide) ?_
    exact zlk18 C hi hX hl next
  · refine lv_tableIn hx hb (pv_row hR rfl) (by omega) (by omega) (off := 802) (tgt := 835) (by rw [h]; rfl) (by decide) ?_
    exact zlk19 C hi hX hl next
  · refine lv_tableIn hx hb (pv_row hR rfl) (by omega) (by omega) (off := 825) (tgt := 858) (by rw [h]; rfl) (by decide) ?_
    exact zlk20 C hi hX hl next
  · refine lv_tableIn hx hb (pv_row hR rfl) (by omega) (by omega) (off := 868) (tgt := 901) (by rw [h]; rfl) (by decide) ?_
    exact zlk21 C hi hX hl next
  · refine lv_tableIn hx hb (pv_row hR rfl) (by omega) (by omega) (off := 901) (tgt := 934) (by rw [h]; rfl) (by decide) ?_
    exact zlk22 C hi hX hl next
  · refine lv_tableIn hx hb (pv_row hR rfl) (by omega) (by omega) (off := 924) (tgt := 957) (by rw [h]; rfl) (by decide) ?_
    exact zlk23 C hi hX hl next
  · refine lv_tableIn hx hb (pv_row hR rfl) (by omega) (by omega) (off := 967) (tgt := 1000) (by rw [h]; rfl) (by decide) ?_
    exact zlk24 C hi hX hl next
  · refine lv_tableIn hx hb (pv_row hR rfl) (by omega) (by omega) (off := 990) (tgt := 1023) (by rw [h]; rfl) (by decide) ?_
    exact zlk25 C hi hX hl next
  · refine lv_tableIn hx hb (pv_row hR rfl) (by omega) (by omega) (off := 1013) (tgt := 1046) (by rw [h]; rfl) (by decide) ?_
    exact zlk26 C hi hX hl next
  · refine lv_tableIn hx hb (pv_row hR rfl) (by omega) (by omega) (off := 1036) (tgt := 1069) (by rw [h]; rfl) (by decide) ?_
    exact zlk27 C hi hX hl next
  · refine lv_tableIn hx hb (pv_row hR rfl) (by omega) (by omega) (off := 1059) (tgt := 1092) (by rw [h]; rfl) (by decide) ?_
    exact zlk28 C hi hX hl next
  · refine lv_tableIn hx hb (pv_row hR rfl) (by omega) (by omega) (off := 1102) (tgt := 1135) (by rw [h]; rfl) (by decide) ?_
    exact zlk29 C hi hX hl next hG
  · refine lv_tableIn hx hb (pv_row hR rfl) (by omega) (by omega) (off := 1135) (tgt := 1168) (by rw [h]; rfl) (by decide) ?_
    exact zlk30 C hi hX hl next
  · refine lv_tableIn hx hb (pv_row hR rfl) (by omega) (by omega) (off := 1158) (tgt := 1191) (by rw [h]; rfl) (by decide) ?_
    exact zlk31 C hi hX hl next
  · refine lv_tableIn hx hb (pv_row hR rfl) (by omega) (by omega) (off := 1181) (tgt := 1214) (by rw [h]; rfl) (by decide) ?_
    exact zlk32 C hi hX hl next
  · refine lv_tableIn hx hb (pv_row hR rfl) (by omega) (by omega) (off := 1204) (tgt := 1237) (by rw [h]; rfl) (by decide) ?_
    exact zlk33 C hi hX hl next
  · refine lv_tableIn hx hb (pv_row hR rfl) (by omega) (by omega) (off := 1237) (tgt := 1270) (by rw [h]; rfl) (by decide) ?_
    exact zlk34 C hi hX hl next
  · refine lv_tableIn hx hb (pv_row hR rfl) (by omega) (by omega) (off := 1260) (tgt := 1293) (by rw [h]; rfl) (by decide) ?_
    exact zlk35 C hi hX hl next
  · refine lv_tableIn hx hb (pv_row hR rfl) (by omega) (by omega) (off := 1273) (tgt := 1306) (by rw [h]; rfl) (by decide) ?_
    exact zlk36 C hi hX hl next
  · refine lv_tableIn hx hb (pv_row hR rfl) (by omega) (by omega) (off := 1296) (tgt := 1329) (by rw [h]; rfl) (by decide) ?_
    exact zlk37 C hi hX hl next
  · refine lv_tableIn hx hb (pv_row hR rfl) (by omega) (by omega) (off := 1309) (tgt := 1342) (by rw [h]; rfl) (by decide) ?_
    exact zlk38 C hi hX hl next
  · refine lv_tableIn hx hb (pv_row hR rfl) (by omega) (by omega) (off := 1348) (tgt := 1381) (by rw [h]; rfl) (by decide) ?_
    exact zlk39 C hi hX hl next
set_option maxRecDepth 100000 in
theorem zlaw_loop (C : zLC D ST b0 l B0 Sg p R s m args meth c b ax am L xs nc ns) (hend : ∀ (H : Heap) (locs : List Loc) (ls : Array Slot), va_S b0.1 s.heap H locs → W p l e R s m args below meth c H locs nc ns Q (F0 m 1411 ls [.int (Int32.ofInt 1)])) (hG : ∀ q ∈ zGT, sx_gtok zCDs (zAS ST) zTB Sg q) : ∀ (n : Nat) {i : Int32} {H : Heap} {locs : List Loc} {ls : Array Slot}, (L - i.toInt).toNat = n → 0 ≤ i.toInt → i.toInt ≤ L → zLX D b0 B0 Sg s H locs → lv_has ls 4 (zlv b ax am i) → W p l e R s m args below meth c H locs nc ns Q (F0 m 18 ls []) := by
  obtain ⟨-, -, -, -, -, hF, hT, hL, -, -, -, -⟩ := id C
  obtain ⟨hx, hb, -, -, -⟩ := id hF.1
  have hR := zMk0.1
  intro n
  induction n using Nat.strongRecOn with
  | ind n ih =>
    intro i H locs ls hn h0 h1 hX hl
    have hV : va_S b0.1 s.heap H locs := hX.choose_spec.2.1
    have eL : (Int32.ofNat L).toInt = L := Int32.toInt_ofNat_of_lt (by omega)
    have e6 : ((Int8.ofInt 6).toInt32).toInt = 6 := by decide
    have eS : (Int32.ofNat L - (Int8.ofInt 6).toInt32).toInt = (L : Int) - 6 := by
      rw [Jvm.Kit.i32_sub (by rw [e6]; omega) (by rw [e6]; omega), e6, eL]
    refine pv_W hx hb hR 2 20 (zlv b ax am i) [.ref b, .int i] rfl hl (fun ls hl => ?_)
    refine va_tlen hx hb hT hV rfl (pv_row hR rfl) ?_
    refine pv_W hx hb hR 2 24 (zlv b ax am i) [.int (Int32.ofNat L - (Int8.ofInt 6).toInt32), .int i] rfl hl (fun ls hl => ?_)
    refine pv_icmp hF.1 hR .gt 1386 1410 rfl rfl (fun _ => ?_) (fun h => ?_)
    · refine pv_W hx hb hR 1 1411 (zlv b ax am i) [.int (Int32.ofInt 1)] rfl hl (fun ls hl => ?_)
      exact hend H locs ls hV
    · have h : i.toInt ≤ (Int32.ofNat L - (Int8.ofInt 6).toInt32).toInt := h
      rw [eS] at h
      refine pv_W hx hb hR 2 29 (zlv b ax am i) [.int i, .ref b] rfl hl (fun ls hl => ?_)
      refine va_ti hx hb hT hV (jin h0 (by omega)) rfl (pv_row hR rfl) ?_
      refine pv_W hx hb hR 2 33 (zlv b ax am i) [.int (xs i.toNatClampNeg &&& (Int8.ofInt 63).toInt32)] rfl hl (fun ls hl => ?_)
      refine zlswitch (zand63 _) C ⟨h0, by omega⟩ hX hl (fun H2 locs2 ls2 hX2 hl2 => ?_) hG
      refine pv_W hx hb hR 2 18 [(3, .int (i + Int32.ofInt 6)), (0, .ref b), (1, .ref ax), (2, .ref am)] [] rfl hl2 (fun ls3 hl3 => ?_)
      have ei : (i + Int32.ofInt 6).toInt = i.toInt + 6 := by
        have e : (Int32.ofInt 6).toInt = 6 := by decide
        rw [Jvm.Kit.i32_add (by rw [e]; omega) (by rw [e]; omega), e]
      exact ih _ (by omega) rfl (by omega) (by omega) hX2 (lv_sub hl3 [1, 2, 3, 0] rfl)
end LK3
