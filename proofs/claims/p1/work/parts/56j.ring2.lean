/-! RING: the class's way and the reference's -/
section ZRJ
variable {FT : Nat → List Int → Int} {L : Nat} {D : va_G} {b0 : Nat} {l : Launch} {Sg : Nat → Option Nat} {bud : sx_Bu} {nc ns : Nat} {p : Program} {e : Env} {R : Room} {s : State} {m : MethodId} {args : Array Value} {below : List Frame} {meth : Method} {c : Code} {Q : State → Prop} {ρ : List Value} {K1 : List sx_Ty × List sx_LF × List sx_LF × List (Nat × List sx_LF × Nat)} {FA : sx_FA} {q r len : Nat}
set_option maxRecDepth 100000 in
theorem zl_ring2 {Nn Kk Ii th : Nat} {n k i : Int32} {X : Int32} (hF : sx_Frm D zCl zAO zTB b0 zM83 bud p R s m args meth c) (hb1 : 1 ≤ bud.1) (hb3 : nativeFrameWords "java/lang/System" "arraycopy" 5 + 11 ≤ bud.2.1) (hoff : pa_off r FA) (hn : n.toInt = (Nn : Int)) (hN : Nn ≤ 100) (hlen : 100 < len ∧ len < 2 ^ 31) (hk : k.toInt = (Kk : Int)) (hK : 1 ≤ Kk ∧ Kk ≤ 100) (hi : i.toInt = (Ii : Int)) (hI : Ii < Nn)
    (K : ∀ (H : Heap) (locs : List Loc) (f : Nat → Int32) (ls : Array Slot), pa_I FT D zCl (sxRT L) b0 s Sg ρ (K1, FA) q r len H locs f → lv_has ls 7 [] → W p l e R s m args below meth c H locs nc ns Q (F0 m 77 ls [.int X])) :
    ∀ (d t A : Nat) {a left : Int32} {H : Heap} {locs : List Loc} {f : Nat → Int32} {ls : Array Slot}, t + d = Ii → A ≤ Nn → a.toInt = (A : Int) → left.toInt = ((Nn - t : Nat) : Int) → pa_I FT D zCl (sxRT L) b0 s Sg ρ (K1, FA) q r len H locs f → zrg Kk d f A (Nn - t) = X →
      lv_has ls 7 [(0, .ref th), (1, .int n), (2, .int k), (3, .int i), (4, .ref q), (5, .int a), (6, .int left)] → W p l e R s m args below meth c H locs nc ns Q (F0 m 48 ls []) := by
  have hR := zkDe_rows zDe83
  have hC := hF.1
  obtain ⟨hx, hb, -, -, -⟩ := id hC
  have t1 : (Int32.ofInt 1).toInt = 1 := by decide
  have tm : (Int32.ofInt (-1)).toInt = -1 := by decide
  intro d
  induction d with
  | zero =>
    intro t A a left H locs f ls hd hA ha hleft hpa hX hl
    refine pv_W hx hb hR 1 50 [(0, .ref th), (1, .int n), (2, .int k), (3, .int i), (4, .ref q), (5, .int a), (6, .int left)] [.int left] rfl hl (fun ls hl => ?_)
    refine pv_if hC hR .le 54 104 rfl rfl (fun h => ?_) (fun _ => ?_)
    · have h : left.toInt ≤ 0 := h
      omega
    have hak : (a + k).toInt = a.toInt + k.toInt := Jvm.Kit.i32_add (by omega) (by omega)
    have hak1 : (a + k - Int32.ofInt 1).toInt = ((A + Kk - 1 : Nat) : Int) := by rw [Jvm.Kit.i32_sub (by omega) (by omega), hak, t1]; omega
    refine pv_W hx hb hR 6 61 [(0, .ref th), (1, .int n), (2, .int k), (3, .int i), (4, .ref q), (5, .int a), (6, .int left)] [.int left, .int (a + k - Int32.ofInt 1)] rfl hl (fun ls hl => ?_)
    refine zirem hC hR rfl (by omega) (fun z hz => ?_)
    have hz := zrem_nat hz hak1 hleft
    have hzl := Nat.mod_lt (A + Kk - 1) (show 0 < Nn - t by omega)
    have hnl : (n - left).toInt = n.toInt - left.toInt := Jvm.Kit.i32_sub (by omega) (by omega)
    refine pv_W hx hb hR 5 69 [(5, .int z), (0, .ref th), (1, .int n), (2, .int k), (3, .int i), (4, .ref q), (6, .int left)] [.int i, .int (n - left)] rfl hl (fun ls hl => ?_)
    refine pv_icmp hC hR .ne 9 78 rfl rfl (fun h => ?_) (fun _ => ?_)
    · have h : (n - left).toInt ≠ i.toInt := h
      omega
    refine pv_W hx hb hR 2 76 [(5, .int z), (0, .ref th), (1, .int n), (2, .int k), (3, .int i), (4, .ref q), (6, .int left)] [.int z, .ref q] rfl hl (fun ls hl => ?_)
    refine pa_ald hC hpa.1 hpa.2.2.2 (by omega) (by omega) (pv_row hR rfl) ?_
    have hzn : z.toInt.toNat = (A + Kk - 1) % (Nn - t) := by omega
    rw [hzn, show f ((A + Kk - 1) % (Nn - t)) = X from hX]
    exact K H locs f ls hpa (lv_sub hl [] rfl)
  | succ d ih =>
    intro t A a left H locs f ls hd hA ha hleft hpa hX hl
    refine pv_W hx hb hR 1 50 [(0, .ref th), (1, .int n), (2, .int k), (3, .int i), (4, .ref q), (5, .int a), (6, .int left)] [.int left] rfl hl (fun ls hl => ?_)
    refine pv_if hC hR .le 54 104 rfl rfl (fun h => ?_) (fun _ => ?_)
    · have h : left.toInt ≤ 0 := h
      omega
    have hak : (a + k).toInt = a.toInt + k.toInt := Jvm.Kit.i32_add (by omega) (by omega)
    have hak1 : (a + k - Int32.ofInt 1).toInt = ((A + Kk - 1 : Nat) : Int) := by rw [Jvm.Kit.i32_sub (by omega) (by omega), hak, t1]; omega
    refine pv_W hx hb hR 6 61 [(0, .ref th), (1, .int n), (2, .int k), (3, .int i), (4, .ref q), (5, .int a), (6, .int left)] [.int left, .int (a + k - Int32.ofInt 1)] rfl hl (fun ls hl => ?_)
    refine zirem hC hR rfl (by omega) (fun z hz => ?_)
    have hz := zrem_nat hz hak1 hleft
    have hzl := Nat.mod_lt (A + Kk - 1) (show 0 < Nn - t by omega)
    have hnl : (n - left).toInt = n.toInt - left.toInt := Jvm.Kit.i32_sub (by omega) (by omega)
    refine pv_W hx hb hR 5 69 [(5, .int z), (0, .ref th), (1, .int n), (2, .int k), (3, .int i), (4, .ref q), (6, .int left)] [.int i, .int (n - left)] rfl hl (fun ls hl => ?_)
    refine pv_icmp hC hR .ne 9 78 rfl rfl (fun _ => ?_) (fun h => ?_)
    · have e1 : (z + Int32.ofInt 1).toInt = z.toInt + 1 := by rw [Jvm.Kit.i32_add (by omega) (by omega), t1]
      have e2 : (left - Int32.ofInt 1).toInt = left.toInt - 1 := by rw [Jvm.Kit.i32_sub (by omega) (by omega), t1]
      have e3 : (left - Int32.ofInt 1 - z).toInt = left.toInt - 1 - z.toInt := by rw [Jvm.Kit.i32_sub (by omega) (by omega), e2]
      refine pv_W hx hb hR 11 95 [(5, .int z), (0, .ref th), (1, .int n), (2, .int k), (3, .int i), (4, .ref q), (6, .int left)] [.int (left - Int32.ofInt 1 - z), .int z, .ref q, .int (z + Int32.ofInt 1), .ref q] rfl hl (fun ls hl => ?_)
      obtain ⟨o1, o2, o3, o4⟩ := (zHda zD5 (by decide +kernel) args s hF.1.2.2.2.2 hF.2.1.2.1).2.2.2 57 (by decide +kernel)
      refine pa_acp hC o1 o2 o3 o4 (by rw [hF.2.2.2.1]; exact hb1) (by rw [hF.2.2.2.2.1]; show 0 + _ ≤ _; omega) hl.1 hoff hpa (by omega) (by omega) (by omega) (by omega) (by omega) (pv_row hR rfl) (fun H' locs' hpa' => ?_)
      refine pv_W hx hb hR 2 48 [(6, .int (left + Int32.ofInt (-1))), (5, .int z), (0, .ref th), (1, .int n), (2, .int k), (3, .int i), (4, .ref q)] [] rfl hl (fun ls hl => ?_)
      refine ih (t + 1) ((A + Kk - 1) % (Nn - t)) (by omega) (by omega) hz (by rw [Jvm.Kit.i32_add (by omega) (by omega), tm, hleft]; omega) hpa' ?_ (lv_sub hl [2, 3, 4, 5, 6, 1, 0] rfl)
      rw [← hX]
      simp only [zrg]
      rw [show Nn - (t + 1) = Nn - t - 1 by omega]
      refine zrg_congr Kk d (by omega) (fun x hx => ?_)
      unfold zsh
      have e4 : z.toInt.toNat = (A + Kk - 1) % (Nn - t) := by omega
      have e5 : (z + Int32.ofInt 1).toInt.toNat = (A + Kk - 1) % (Nn - t) + 1 := by omega
      have e6 : (left - Int32.ofInt 1 - z).toInt.toNat = Nn - t - 1 - (A + Kk - 1) % (Nn - t) := by omega
      show (if z.toInt.toNat ≤ x ∧ x < z.toInt.toNat + (left - Int32.ofInt 1 - z).toInt.toNat then f ((z + Int32.ofInt 1).toInt.toNat + (x - z.toInt.toNat)) else f x) = _
      rw [e4, e5, e6]
      by_cases hc : (A + Kk - 1) % (Nn - t) ≤ x ∧ x + 1 < Nn - t
      · rw [if_pos hc, if_pos ⟨hc.1, by omega⟩]
        congr 1; omega
      · rw [if_neg hc, if_neg (fun h => hc ⟨h.1, by omega⟩)]
    · have h : (n - left).toInt = i.toInt := h
      omega
set_option maxRecDepth 100000 in
theorem zw_ring {Nn Kk Ii th : Nat} {n k i j0 : Int32} {H : Heap} {locs : List Loc} {f : Nat → Int32} {ls : Array Slot} (hF : sx_Frm D zCl zAO zTB b0 zM83 bud p R s m args meth c) (hb1 : 1 ≤ bud.1) (hb2 : 21 ≤ bud.2.1) (hb3 : nativeFrameWords "java/lang/System" "arraycopy" 5 + 11 ≤ bud.2.1) (hnc : nc ≤ bud.2.2.1) (hns : ns ≤ bud.2.2.2) (hoff : pa_off r FA) (hn : n.toInt = (Nn : Int)) (hN : Nn ≤ 100) (hlen : 100 < len ∧ len < 2 ^ 31) (hk : k.toInt = (Kk : Int)) (hK : 1 ≤ Kk ∧ Kk ≤ 100) (hi : i.toInt = (Ii : Int)) (hI : Ii < Nn)
    (hj0 : j0.toInt = 0) (hpa : pa_I FT D zCl (sxRT L) b0 s Sg ρ (K1, FA) q r len H locs f) (hl : lv_has ls 7 [(0, .ref th), (1, .int n), (2, .int k), (3, .int i), (4, .ref q), (5, .int j0)])
    (K : ∀ (H : Heap) (locs : List Loc) (f : Nat → Int32) (ls : Array Slot), pa_I FT D zCl (sxRT L) b0 s Sg ρ (K1, FA) q r len H locs f → lv_has ls 7 [] → W p l e R s m args below meth c H locs nc ns Q (F0 m 77 ls [.int (zrg Kk Ii Int32.ofNat 0 Nn)])) : W p l e R s m args below meth c H locs nc ns Q (F0 m 9 ls []) := by
  have hR := zkDe_rows zDe83
  obtain ⟨hx, hb, -, -, -⟩ := id hF.1
  have hlt : (Int32.ofNat len).toInt = (len : Int) := Int32.toInt_ofNat_of_lt hlen.2
  refine zl_ring1 hF.1 hoff hn hN hlen (fun H locs f ls hpa hf hl => ?_) Nn 0 (by omega) (by rw [hj0]; rfl) hpa (fun x hx => absurd hx (Nat.not_lt_zero x)) hl
  refine pv_W hx hb hR 4 42 [(5, .int (Int32.ofInt 0)), (0, .ref th), (1, .int n), (2, .int k), (3, .int i), (4, .ref q)] [.ref q, .int n] rfl hl (fun ls hl => ?_)
  refine pa_alen hF.1 hpa.1 hpa.2.2.2 (pv_row hR rfl) ?_
  refine zcall0 (L := L) (M := zM30) (vs := [.int n, .int (Int32.ofNat len)]) (rest := []) zD5 (43, 1, 30, 2) (by decide +kernel) rfl (by decide +kernel) rfl (zmt (j := 83) rfl) rfl hF rfl (Nat.le_of_ble_eq_true rfl) (Nat.le_of_ble_eq_true rfl) hb1 hb2 (fun h => by cases h) rfl rfl hnc hns (fun h => absurd rfl h) hpa.1 hpa.2.2.1 hl.1 zc_min (fun vo H2 locs2 k1 k2 k3 => ?_)
  obtain ⟨rfl, rfl⟩ := k3
  rw [if_pos (by omega)]
  have hpa : pa_I FT D zCl (sxRT L) b0 s Sg ρ (K1, FA) q r len H2 locs2 f := ⟨k1, hpa.2.1, k2, hpa.2.2.2⟩
  refine pv_W hx hb hR 1 48 [(6, .int n), (5, .int (Int32.ofInt 0)), (0, .ref th), (1, .int n), (2, .int k), (3, .int i), (4, .ref q)] [] rfl hl (fun ls hl => ?_)
  refine zl_ring2 hF hb1 hb3 hoff hn hN hlen hk hK hi hI (fun H locs f ls hpa hl => K H locs f ls hpa hl) Ii 0 0 (by omega) (by omega) (show (Int32.ofInt 0).toInt = ((0 : Nat) : Int) by decide) (by rw [hn]; rfl) hpa ?_ (lv_sub hl [2, 3, 4, 5, 6, 1, 0] rfl)
  exact zrg_congr Kk Ii (by omega) hf
end ZRJ
/-! the reference -/
section ZRK
variable {FT : Nat → List Int → Int} {L : Nat} {D : va_G} {b0 : Nat} {l : Launch} {Sg : Nat → Option Nat} {bud : sx_Bu} {nc ns : Nat} {p : Program} {e : Env} {R : Room} {s : State} {m : MethodId} {args : Array Value} {below : List Frame} {meth : Method} {c : Code} {Q : State → Prop} {ρ : List Value} {K1 : List sx_Ty × List sx_LF × List sx_LF × List (Nat × List sx_LF × Nat)} {FA : sx_FA} {q r len th rm z0 : Nat} {g : sx_Rg}
/-- the place of the array is known, and which cell it is -/
def zthere (RT : Nat → Option sx_Rg) (Sg : Nat → Option Nat) (ρ : List Value) (FA : sx_FA) (q th rm z0 k : Nat) (g : sx_Rg) : Prop := Sg th = some rm ∧ RT rm = some g ∧ g.1 = 0 ∧ g.2.1 = 12 ∧ (rm, k, (2, ((z0 : Int), []))) ∈ FA.1 ∧ ρ[z0]? = some (.ref q)
theorem zw_there {M0 : sx_Me} {pc kf : Nat} {H : Heap} {locs : List Loc} {f : Nat → Int32} {ls : Array Slot} {rest : List Value} (fq : sx_Fl) (hfq : fq ∈ zD12.2.1.2.2.1) (hfq1 : fq.2.1 = 12) (hfq2 : fq.2.2.1 = kf) (hM0 : M0 ∈ zMT.flatten) (hown : zD12.1 = M0.1.1.cls) (hrow : sx_row M0.2.1 pc = some (pc, .getfield fq.1, 3)) (hF : sx_Frm D zCl zAO zTB b0 M0 bud p R s m args meth c) (hT : zthere (sxRT L) Sg ρ FA q th rm z0 kf g) (hpa : pa_I FT D zCl (sxRT L) b0 s Sg ρ (K1, FA) q r len H locs f)
    (kk : W p l e R s m args below meth c H locs nc ns Q (F0 m (pc + 3) ls (.ref q :: rest))) : W p l e R s m args below meth c H locs nc ns Q (F0 m pc ls (.ref th :: rest)) := by
  obtain ⟨h1, h2, h3, h4, h5, h6⟩ := hT
  have hcd := (zHda zD12 (by decide +kernel) args s hF.1.2.2.2.2 hF.2.1.2.1).1
  rw [hown] at hcd
  refine pa_getf hF.1 hF.2.1.1 zclok (hcd.2.2.1 fq hfq) hpa.1 hpa.2.1 h1 h2 h3 (by rw [h4, hfq1]) (by rw [hfq2]; exact h5) (pv_row (zHme M0 hM0).1 hrow) (fun v hv => ?_)
  obtain ⟨k1, -⟩ := sx_av_ref hv
  have k1 : ρ[z0]? = some v := k1
  rw [h6] at k1
  cases k1
  exact kk
set_option maxRecDepth 100000 in
theorem zl_mring1 {Nn : Nat} {n k i : Int32} (hF : sx_Frm D zCl zAO zTB b0 zM179 bud p R s m args meth c) (hT : zthere (sxRT L) Sg ρ FA q th rm z0 51 g) (hoff : pa_off r FA) (hn : n.toInt = (Nn : Int)) (hN : Nn ≤ 100) (hlen : 100 ≤ len)
    (K : ∀ (H : Heap) (locs : List Loc) (f : Nat → Int32) (ls : Array Slot), pa_I FT D zCl (sxRT L) b0 s Sg ρ (K1, FA) q r len H locs f → (∀ x, x < Nn → f x = Int32.ofNat x) → lv_has ls 7 [(0, .ref th), (1, .int n), (2, .int k), (3, .int i)] → W p l e R s m args below meth c H locs nc ns Q (F0 m 65 ls [])) :
    ∀ (d t : Nat) {j : Int32} {H : Heap} {locs : List Loc} {f : Nat → Int32} {ls : Array Slot}, t + d = Nn → j.toInt = (t : Int) → pa_I FT D zCl (sxRT L) b0 s Sg ρ (K1, FA) q r len H locs f → (∀ x, x < t → f x = Int32.ofNat x) →
      lv_has ls 7 [(0, .ref th), (1, .int n), (2, .int k), (3, .int i), (4, .int j)] → W p l e R s m args below meth c H locs nc ns Q (F0 m 44 ls []) := by
  have hR := zkDe_rows zDe179
  have hC := hF.1
  obtain ⟨hx, hb, -, -, -⟩ := id hC
  have t1 : (Int32.ofInt 1).toInt = 1 := by decide
  intro d
  induction d with
  | zero =>
    intro t j H locs f ls hd hj hpa hf hl
    refine pv_W hx hb hR 2 47 [(0, .ref th), (1, .int n), (2, .int k), (3, .int i), (4, .int j)] [.int n, .int j] rfl hl (fun ls hl => ?_)
    refine pv_icmp hC hR .ge 18 65 rfl rfl (fun h => ?_) (fun h => ?_)
    · obtain rfl : t = Nn := by omega
      exact K H locs f ls hpa hf (lv_sub hl [0, 1, 2, 3] rfl)
    · have h : j.toInt < n.toInt := h
      omega
  | succ d ih =>
    intro t j H locs f ls hd hj hpa hf hl
    refine pv_W hx hb hR 2 47 [(0, .ref th), (1, .int n), (2, .int k), (3, .int i), (4, .int j)] [.int n, .int j] rfl hl (fun ls hl => ?_)
    refine pv_icmp hC hR .ge 18 65 rfl rfl (fun h => ?_) (fun h => ?_)
    · have h : n.toInt ≤ j.toInt := h
      omega
    refine pv_W hx hb hR 1 51 [(0, .ref th), (1, .int n), (2, .int k), (3, .int i), (4, .int j)] [.ref th] rfl hl (fun ls hl => ?_)
    refine zw_there (96, 12, 51, 3, 1) (by decide +kernel) rfl rfl (zmt (j := 179) rfl) rfl rfl hF hT hpa ?_
    refine pv_W hx hb hR 2 58 [(0, .ref th), (1, .int n), (2, .int k), (3, .int i), (4, .int j)] [.int j, .int j, .ref q] rfl hl (fun ls hl => ?_)
    refine pa_ast hC hpa hoff (by omega) (by omega) (pv_row hR rfl) (fun H' locs' hpa' => ?_)
    have hjn : j.toInt.toNat = t := by omega
    rw [hjn] at hpa'
    refine pv_W hx hb hR 2 44 [(4, .int (j + Int32.ofInt 1)), (0, .ref th), (1, .int n), (2, .int k), (3, .int i)] [] rfl hl (fun ls hl => ?_)
    refine ih (t + 1) (by omega) (by rw [Jvm.Kit.i32_add (by omega) (by omega), t1, hj]; omega) hpa' (fun x hx => ?_) (lv_sub hl [1, 2, 3, 4, 0] rfl)
    show (if x = t then j else f x) = Int32.ofNat x
    by_cases hxt : x = t
    · rw [if_pos hxt]
      refine Int32.toInt_inj.mp ?_
      rw [Int32.toInt_ofNat_of_lt (by omega), hj, hxt]
    · rw [if_neg hxt]
      exact hf x (by omega)
set_option maxRecDepth 100000 in
theorem zl_mring3 {Nn Ll A : Nat} {n k i a gone : Int32} {f : Nat → Int32} (hF : sx_Frm D zCl zAO zTB b0 zM179 bud p R s m args meth c) (hT : zthere (sxRT L) Sg ρ FA q th rm z0 51 g) (hoff : pa_off r FA) (hn : n.toInt = (Nn : Int)) (hN : Nn ≤ 100) (hlen : 100 ≤ len) (hL : 1 ≤ Ll ∧ Ll ≤ Nn) (hg : gone.toInt = ((Nn - Ll : Nat) : Int))
    (K : ∀ (H : Heap) (locs : List Loc) (f' : Nat → Int32) (ls : Array Slot), pa_I FT D zCl (sxRT L) b0 s Sg ρ (K1, FA) q r len H locs f' → (∀ x, f' x = zsh f A Ll x) → lv_has ls 7 [(0, .ref th), (1, .int n), (2, .int k), (3, .int i), (4, .int a), (5, .int gone)] → W p l e R s m args below meth c H locs nc ns Q (F0 m 127 ls [])) :
    ∀ (d P : Nat) {j : Int32} {H : Heap} {locs : List Loc} {f' : Nat → Int32} {ls : Array Slot}, P + d + 1 = Ll → j.toInt = (P : Int) → pa_I FT D zCl (sxRT L) b0 s Sg ρ (K1, FA) q r len H locs f' → (∀ x, f' x = if A ≤ x ∧ x < P then f (x + 1) else f x) → A ≤ P →
      lv_has ls 7 [(0, .ref th), (1, .int n), (2, .int k), (3, .int i), (4, .int a), (5, .int gone), (6, .int j)] → W p l e R s m args below meth c H locs nc ns Q (F0 m 94 ls []) := by
  have hR := zkDe_rows zDe179
  have hC := hF.1
  obtain ⟨hx, hb, -, -, -⟩ := id hC
  have t1 : (Int32.ofInt 1).toInt = 1 := by decide
  have e1 : (n - gone).toInt = (Ll : Int) := by rw [Jvm.Kit.i32_sub (by omega) (by omega)]; omega
  have e2 : (n - gone - Int32.ofInt 1).toInt = (Ll : Int) - 1 := by rw [Jvm.Kit.i32_sub (by omega) (by omega), e1, t1]
  intro d
  induction d with
  | zero =>
    intro P j H locs f' ls hd hj hpa hf hAP hl
    refine pv_W hx hb hR 6 102 [(0, .ref th), (1, .int n), (2, .int k), (3, .int i), (4, .int a), (5, .int gone), (6, .int j)] [.int (n - gone - Int32.ofInt 1), .int j] rfl hl (fun ls hl => ?_)
    refine pv_icmp hC hR .ge 25 127 rfl rfl (fun h => ?_) (fun h => ?_)
    · refine K H locs f' ls hpa (fun x => ?_) (lv_sub hl [0, 1, 2, 3, 4, 5] rfl)
      rw [hf x]
      unfold zsh
      by_cases hc : A ≤ x ∧ x < P
      · rw [if_pos hc, if_pos ⟨hc.1, by omega⟩]
      · rw [if_neg hc, if_neg (fun h => hc ⟨h.1, by omega⟩)]
    · have h : j.toInt < (n - gone - Int32.ofInt 1).toInt := h
      omega
  | succ d ih =>
    intro P j H locs f' ls hd hj hpa hf hAP hl
    refine pv_W hx hb hR 6 102 [(0, .ref th), (1, .int n), (2, .int k), (3, .int i), (4, .int a), (5, .int gone), (6, .int j)] [.int (n - gone - Int32.ofInt 1), .int j] rfl hl (fun ls hl => ?_)
    refine pv_icmp hC hR .ge 25 127 rfl rfl (fun h => ?_) (fun h => ?_)
    · have h : (n - gone - Int32.ofInt 1).toInt ≤ j.toInt := h
      omega
    refine pv_W hx hb hR 1 106 [(0, .ref th), (1, .int n), (2, .int k), (3, .int i), (4, .int a), (5, .int gone), (6, .int j)] [.ref th] rfl hl (fun ls hl => ?_)
    refine zw_there (96, 12, 51, 3, 1) (by decide +kernel) rfl rfl (zmt (j := 179) rfl) rfl rfl hF hT hpa ?_
    refine pv_W hx hb hR 2 112 [(0, .ref th), (1, .int n), (2, .int k), (3, .int i), (4, .int a), (5, .int gone), (6, .int j)] [.ref th, .int j, .ref q] rfl hl (fun ls hl => ?_)
    refine zw_there (96, 12, 51, 3, 1) (by decide +kernel) rfl rfl (zmt (j := 179) rfl) rfl rfl hF hT hpa ?_
    have e3 : (j + Int32.ofInt 1).toInt = ((P + 1 : Nat) : Int) := by rw [Jvm.Kit.i32_add (by omega) (by omega), t1, hj]; omega
    refine pv_W hx hb hR 3 119 [(0, .ref th), (1, .int n), (2, .int k), (3, .int i), (4, .int a), (5, .int gone), (6, .int j)] [.int (j + Int32.ofInt 1), .ref q, .int j, .ref q] rfl hl (fun ls hl => ?_)
    refine pa_ald hC hpa.1 hpa.2.2.2 (by omega) (by omega) (pv_row hR rfl) ?_
    refine pa_ast hC hpa hoff (by omega) (by omega) (pv_row hR rfl) (fun H' locs' hpa' => ?_)
    have hjn : j.toInt.toNat = P := by omega
    have hjn1 : (j + Int32.ofInt 1).toInt.toNat = P + 1 := by omega
    rw [hjn, hjn1] at hpa'
    refine pv_W hx hb hR 2 94 [(6, .int (j + Int32.ofInt 1)), (0, .ref th), (1, .int n), (2, .int k), (3, .int i), (4, .int a), (5, .int gone)] [] rfl hl (fun ls hl => ?_)
    refine ih (P + 1) (by omega) e3 hpa' (fun x => ?_) (by omega) (lv_sub hl [1, 2, 3, 4, 5, 6, 0] rfl)
    show (if x = P then f' (P + 1) else f' x) = _
    by_cases hxP : x = P
    · rw [if_pos hxP, hf, if_neg (by omega), if_pos (by omega), hxP]
    · rw [if_neg hxP, hf x]
      by_cases hc : A ≤ x ∧ x < P
      · rw [if_pos hc, if_pos (by omega)]
      · rw [if_neg hc, if_neg (by omega)]
set_option maxRecDepth 100000 in
theorem zl_mring2 {Nn Kk Ii : Nat} {n k i : Int32} {X : Int32} (hF : sx_Frm D zCl zAO zTB b0 zM179 bud p R s m args meth c) (hT : zthere (sxRT L) Sg ρ FA q th rm z0 51 g) (hoff : pa_off r FA) (hn : n.toInt = (Nn : Int)) (hN : Nn ≤ 100) (hlen : 100 ≤ len) (hk : k.toInt = (Kk : Int)) (hK : 1 ≤ Kk ∧ Kk ≤ 100) (hi : i.toInt = (Ii : Int)) (hI : Ii < Nn)
    (K : ∀ (H : Heap) (locs : List Loc) (f : Nat → Int32) (ls : Array Slot), pa_I FT D zCl (sxRT L) b0 s Sg ρ (K1, FA) q r len H locs f → lv_has ls 7 [] → W p l e R s m args below meth c H locs nc ns Q (F0 m 148 ls [.int X])) :
    ∀ (d t A : Nat) {a gone : Int32} {H : Heap} {locs : List Loc} {f : Nat → Int32} {ls : Array Slot}, t + d = Ii → A ≤ Nn → a.toInt = (A : Int) → gone.toInt = (t : Int) → pa_I FT D zCl (sxRT L) b0 s Sg ρ (K1, FA) q r len H locs f → zrg Kk d f A (Nn - t) = X →
      lv_has ls 7 [(0, .ref th), (1, .int n), (2, .int k), (3, .int i), (4, .int a), (5, .int gone)] → W p l e R s m args below meth c H locs nc ns Q (F0 m 71 ls []) := by
  have hR := zkDe_rows zDe179
  have hC := hF.1
  obtain ⟨hx, hb, -, -, -⟩ := id hC
  have t1 : (Int32.ofInt 1).toInt = 1 := by decide
  intro d
  induction d with
  | zero =>
    intro t A a gone H locs f ls hd hA ha hgone hpa hX hl
    refine pv_W hx hb hR 2 74 [(0, .ref th), (1, .int n), (2, .int k), (3, .int i), (4, .int a), (5, .int gone)] [.int i, .int gone] rfl hl (fun ls hl => ?_)
    refine pv_icmp hC hR .ge 59 133 rfl rfl (fun _ => ?_) (fun h => ?_)
    · have hak : (a + k).toInt = a.toInt + k.toInt := Jvm.Kit.i32_add (by omega) (by omega)
      have hak1 : (a + k - Int32.ofInt 1).toInt = ((A + Kk - 1 : Nat) : Int) := by rw [Jvm.Kit.i32_sub (by omega) (by omega), hak, t1]; omega
      have hni : (n - i).toInt = ((Nn - t : Nat) : Int) := by rw [Jvm.Kit.i32_sub (by omega) (by omega)]; omega
      refine pv_W hx hb hR 1 134 [(0, .ref th), (1, .int n), (2, .int k), (3, .int i), (4, .int a), (5, .int gone)] [.ref th] rfl hl (fun ls hl => ?_)
      refine zw_there (96, 12, 51, 3, 1) (by decide +kernel) rfl rfl (zmt (j := 179) rfl) rfl rfl hF hT hpa ?_
      refine pv_W hx hb hR 8 146 [(0, .ref th), (1, .int n), (2, .int k), (3, .int i), (4, .int a), (5, .int gone)] [.int (n - i), .int (a + k - Int32.ofInt 1), .ref q] rfl hl (fun ls hl => ?_)
      refine zirem hC hR rfl (by omega) (fun z hz => ?_)
      have hz := zrem_nat hz hak1 hni
      have hzl := Nat.mod_lt (A + Kk - 1) (show 0 < Nn - t by omega)
      refine pa_ald hC hpa.1 hpa.2.2.2 (by omega) (by omega) (pv_row hR rfl) ?_
      have hzn : z.toInt.toNat = (A + Kk - 1) % (Nn - t) := by omega
      rw [hzn, show f ((A + Kk - 1) % (Nn - t)) = X from hX]
      exact K H locs f ls hpa (lv_sub hl [] rfl)
    · have h : gone.toInt < i.toInt := h
      omega
  | succ d ih =>
    intro t A a gone H locs f ls hd hA ha hgone hpa hX hl
    refine pv_W hx hb hR 2 74 [(0, .ref th), (1, .int n), (2, .int k), (3, .int i), (4, .int a), (5, .int gone)] [.int i, .int gone] rfl hl (fun ls hl => ?_)
    refine pv_icmp hC hR .ge 59 133 rfl rfl (fun h => ?_) (fun _ => ?_)
    · have h : i.toInt ≤ gone.toInt := h
      omega
    have hak : (a + k).toInt = a.toInt + k.toInt := Jvm.Kit.i32_add (by omega) (by omega)
    have hak1 : (a + k - Int32.ofInt 1).toInt = ((A + Kk - 1 : Nat) : Int) := by rw [Jvm.Kit.i32_sub (by omega) (by omega), hak, t1]; omega
    have hng : (n - gone).toInt = ((Nn - t : Nat) : Int) := by rw [Jvm.Kit.i32_sub (by omega) (by omega)]; omega
    refine pv_W hx hb hR 8 87 [(0, .ref th), (1, .int n), (2, .int k), (3, .int i), (4, .int a), (5, .int gone)] [.int (n - gone), .int (a + k - Int32.ofInt 1)] rfl hl (fun ls hl => ?_)
    refine zirem hC hR rfl (by omega) (fun z hz => ?_)
    have hz := zrem_nat hz hak1 hng
    have hzl := Nat.mod_lt (A + Kk - 1) (show 0 < Nn - t by omega)
    refine pv_W hx hb hR 3 94 [(6, .int z), (4, .int z), (0, .ref th), (1, .int n), (2, .int k), (3, .int i), (5, .int gone)] [] rfl hl (fun ls hl => ?_)
    refine zl_mring3 (Ll := Nn - t) (A := (A + Kk - 1) % (Nn - t)) (f := f) hF hT hoff hn hN hlen ⟨by omega, by omega⟩ (by rw [hgone]; omega) (fun H locs f' ls hpa hf' hl => ?_) (Nn - t - 1 - (A + Kk - 1) % (Nn - t)) ((A + Kk - 1) % (Nn - t)) (by omega) hz hpa (fun x => by rw [if_neg (by omega)]) (Nat.le_refl _) (lv_sub hl [2, 3, 4, 5, 1, 6, 0] rfl)
    refine pv_W hx hb hR 2 71 [(5, .int (gone + Int32.ofInt 1)), (0, .ref th), (1, .int n), (2, .int k), (3, .int i), (4, .int z)] [] rfl hl (fun ls hl => ?_)
    refine ih (t + 1) ((A + Kk - 1) % (Nn - t)) (by omega) (by omega) hz (by rw [Jvm.Kit.i32_add (by omega) (by omega), t1, hgone]; omega) hpa ?_ (lv_sub hl [1, 2, 3, 4, 5, 0] rfl)
    rw [← hX]
    simp only [zrg]
    rw [show Nn - (t + 1) = Nn - t - 1 by omega]
    exact zrg_congr Kk d (by omega) (fun x hx => hf' x)
set_option maxRecDepth 100000 in
theorem zw_mring {Nn Kk Ii : Nat} {n k i j0 : Int32} {H : Heap} {locs : List Loc} {f : Nat → Int32} {ls : Array Slot} (hF : sx_Frm D zCl zAO zTB b0 zM179 bud p R s m args meth c) (hT : zthere (sxRT L) Sg ρ FA q th rm z0 51 g) (hoff : pa_off r FA) (hn : n.toInt = (Nn : Int)) (hN : Nn ≤ 100) (hlen : 100 ≤ len) (hk : k.toInt = (Kk : Int)) (hK : 1 ≤ Kk ∧ Kk ≤ 100) (hi : i.toInt = (Ii : Int)) (hI : Ii < Nn)
    (hj0 : j0.toInt = 0) (hpa : pa_I FT D zCl (sxRT L) b0 s Sg ρ (K1, FA) q r len H locs f) (hl : lv_has ls 7 [(0, .ref th), (1, .int n), (2, .int k), (3, .int i), (4, .int j0)])
    (K : ∀ (H : Heap) (locs : List Loc) (f : Nat → Int32) (ls : Array Slot), pa_I FT D zCl (sxRT L) b0 s Sg ρ (K1, FA) q r len H locs f → lv_has ls 7 [] → W p l e R s m args below meth c H locs nc ns Q (F0 m 148 ls [.int (zrg Kk Ii Int32.ofNat 0 Nn)])) : W p l e R s m args below meth c H locs nc ns Q (F0 m 44 ls []) := by
  have hR := zkDe_rows zDe179
  obtain ⟨hx, hb, -, -, -⟩ := id hF.1
  refine zl_mring1 hF hT hoff hn hN hlen (fun H locs f ls hpa hf hl => ?_) Nn 0 (by omega) (by rw [hj0]; rfl) hpa (fun x hx => absurd hx (Nat.not_lt_zero x)) hl
  refine pv_W hx hb hR 4 71 [(5, .int (Int32.ofInt 0)), (4, .int (Int32.ofInt 0)), (0, .ref th), (1, .int n), (2, .int k), (3, .int i)] [] rfl hl (fun ls hl => ?_)
  refine zl_mring2 hF hT hoff hn hN hlen hk hK hi hI (fun H locs f ls hpa hl => K H locs f ls hpa hl) Ii 0 0 (by omega) (by omega) (show (Int32.ofInt 0).toInt = ((0 : Nat) : Int) by decide) (show (Int32.ofInt 0).toInt = ((0 : Nat) : Int) by decide) hpa ?_ (lv_sub hl [2, 3, 4, 5, 1, 0] rfl)
  exact zrg_congr Kk Ii (by omega) hf
end ZRK
