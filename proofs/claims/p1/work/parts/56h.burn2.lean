/-! LAMPS: the class's burning, from its loops to its end -/
theorem pa_zero {FT : Nat → List Int → Int} {D : va_G} {cl : List vw_C} {RT : Nat → Option sx_Rg} {b0 : Nat} {s : State} {Sg : Nat → Option Nat} {H : Heap} {ρ : List Value} {K1 : List sx_Ty × List sx_LF × List sx_LF × List (Nat × List sx_LF × Nat)} {FA : sx_FA} {q r n : Nat} {f : Nat → Int32}
    (hH : sx_H D cl RT b0 Sg s H) (hG : sx_G FT D RT Sg H ρ (K1, FA)) (hz : (r, (0, 0, 0), []) ∈ FA.2.1) (ha : pa_arr RT Sg H q r n f) : ∀ k, k < n → (f k).toInt = 0 := fun k hk => by
  obtain ⟨h1, h2, cell, h3, h4⟩ := ha
  obtain ⟨a, ra, ga, ca, o1, o2, o3, o4, o5, o6⟩ := hG.2.2.2.2.2.1 _ hz
  have o1 : r = ra := o1
  subst o1
  have := sx_uniq hH h1 o2
  subst this
  rw [h2] at o3
  cases o3
  rw [h3] at o5
  cases o5
  have := o6 k (.int (f k)) hk List.not_mem_nil (h4 k hk)
  rcases this with ⟨-, x, hx, x1, x2⟩ | ⟨k1, -⟩ | ⟨k1, -⟩ | ⟨k1, -⟩
  · cases hx
    have x1 : (0 : Int) ≤ (f k).toInt := x1
    have x2 : (f k).toInt ≤ 0 := x2
    omega
  · exact absurd (show (0 : Nat) = 1 from k1) (by decide)
  · exact absurd (show (0 : Nat) = 2 from k1) (by decide)
  · exact absurd (show (0 : Nat) = 3 from k1) (by decide)
section ZBV
variable {FT : Nat → List Int → Int} {L : Nat} {D : va_G} {b0 : Nat} {l : Launch} {Sg : Nat → Option Nat} {bud : sx_Bu} {nc ns : Nat} {p : Program} {e : Env} {R : Room} {s : State} {m : MethodId} {args : Array Value} {below : List Frame} {meth : Method} {c : Code} {Q : State → Prop} {ρ : List Value} {K1 : List sx_Ty × List sx_LF × List sx_LF × List (Nat × List sx_LF × Nat)} {FA : sx_FA} {q r len : Nat}
set_option maxRecDepth 100000 in
theorem zw_burnj {Nn Mm J th : Nat} {n mm j i : Int32} {H : Heap} {locs : List Loc} {f : Nat → Int32} {ls : Array Slot} (hF : sx_Frm D zCl zAO zTB b0 zM90 bud p R s m args meth c) (hb1 : 1 ≤ bud.1) (hb2 : 22 ≤ bud.2.1) (hnc : nc ≤ bud.2.2.1) (hns : ns ≤ bud.2.2.2) (hoff : pa_off r FA) (hn : n.toInt = (Nn : Int)) (hN : Nn ≤ 500) (hlen : 500 < len ∧ len < 2 ^ 31) (hm : mm.toInt = (Mm : Int)) (hM : Mm ≤ 500) (hj : j.toInt = (J : Int)) (hJ : 1 ≤ J ∧ J ≤ Nn)
    (hi : i.toInt = 1) (hpa : pa_I FT D zCl (sxRT L) b0 s Sg ρ (K1, FA) q r len H locs f) (hf : ∀ k, k < len → (f k).toInt = 0) (hl : lv_has ls 7 [(0, .ref th), (1, .int n), (2, .int mm), (3, .int j), (4, .ref q), (5, .int i)])
    (K : ∀ (y : Int32) (H : Heap) (locs : List Loc) (ls : Array Slot) (f : Nat → Int32), pa_I FT D zCl (sxRT L) b0 s Sg ρ (K1, FA) q r len H locs f → y.toInt = ((zdv J Mm % 2 : Nat) : Int) → lv_has ls 7 [] → W p l e R s m args below meth c H locs nc ns Q (F0 m 91 ls [.int y])) : W p l e R s m args below meth c H locs nc ns Q (F0 m 15 ls []) := by
  have hR := zkDe_rows zDe90
  obtain ⟨hx, hb, -, -, -⟩ := id hF.1
  have t1 : (Int32.ofInt 1).toInt = 1 := by decide
  have tm : (Int32.ofInt (-1)).toInt = -1 := by decide
  have t5 : (Int16.ofInt 500).toInt32.toInt = 500 := by decide
  refine zl_burn2 hF.1 hoff hn hN hlen hm hM (fun H locs f ls hpa hf hl => ?_) Mm 0 (by omega) (by rw [hi]; rfl) hpa (fun x x1 x2 => by rw [hf x (by omega)]; rfl) hl
  refine pv_W hx hb hR 2 69 [(0, .ref th), (1, .int n), (2, .int mm), (3, .int j), (4, .ref q)] [.int (Int32.ofInt (-1)), .int j] rfl hl (fun ls hl => ?_)
  refine pv_icmp hF.1 hR .eq 23 92 rfl rfl (fun h => ?_) (fun _ => ?_)
  · have h : j.toInt = (Int32.ofInt (-1)).toInt := h
    omega
  refine pv_W hx hb hR 3 77 [(0, .ref th), (1, .int n), (2, .int mm), (3, .int j), (4, .ref q)] [.int (Int16.ofInt 500).toInt32, .int (Int32.ofInt 1), .int j] rfl hl (fun ls hl => ?_)
  refine zcall0 (L := L) (M := zM16) (vs := [.int j, .int (Int32.ofInt 1), .int (Int16.ofInt 500).toInt32]) (rest := []) zD5 (33, 1, 16, 3) (by decide +kernel) rfl (by decide +kernel) rfl (zmt (j := 90) rfl) rfl hF rfl (Nat.le_of_ble_eq_true rfl) (Nat.le_of_ble_eq_true rfl) hb1 hb2 (fun h => by cases h) rfl rfl hnc hns (fun h => absurd rfl h) hpa.1 hpa.2.2.1 hl.1 zc_within (fun vo H2 locs2 k1 k2 k3 => ?_)
  obtain ⟨rfl, rfl⟩ := k3
  rw [if_pos (by omega)]
  have hpa : pa_I FT D zCl (sxRT L) b0 s Sg ρ (K1, FA) q r len H2 locs2 f := ⟨k1, hpa.2.1, k2, hpa.2.2.2⟩
  refine pv_if hF.1 hR .eq 10 90 rfl rfl (fun h => ?_) (fun _ => ?_)
  · have h : (1 : Int32).toInt = 0 := h
    exact absurd h (by decide)
  refine pv_W hx hb hR 2 86 [(0, .ref th), (1, .int n), (2, .int mm), (3, .int j), (4, .ref q)] [.int j, .ref q] rfl hl (fun ls hl => ?_)
  refine pa_ald hF.1 hpa.1 hpa.2.2.2 (by omega) (by omega) (pv_row hR rfl) ?_
  have hJn : j.toInt.toNat = J := by omega
  rw [hJn]
  refine pv_W hx hb hR 1 91 [(0, .ref th), (1, .int n), (2, .int mm), (3, .int j), (4, .ref q)] [.int (f J)] rfl hl (fun ls hl => ?_)
  exact K (f J) H2 locs2 ls f hpa (hf J hJ.1 hJ.2) (lv_sub hl [] rfl)
set_option maxRecDepth 100000 in
theorem zl_burn3 {Nn Mm th : Nat} {n : Int32} {H : Heap} {locs : List Loc} {f : Nat → Int32} (hF : sx_Frm D zCl zAO zTB b0 zM90 bud p R s m args meth c) (hn : n.toInt = (Nn : Int)) (hN : Nn ≤ 500) (hlen : 500 < len ∧ len < 2 ^ 31) (hpa : pa_I FT D zCl (sxRT L) b0 s Sg ρ (K1, FA) q r len H locs f) (hf : ∀ x, 1 ≤ x → x ≤ Nn → (f x).toInt = ((zdv x Mm % 2 : Nat) : Int))
    (K : ∀ (y : Int32) (ls : Array Slot), y.toInt = (zds Mm Nn : Int) → lv_has ls 7 [] → W p l e R s m args below meth c H locs nc ns Q (F0 m 130 ls [.int y])) :
    ∀ (d k : Nat) {all i : Int32} {ls : Array Slot}, k + d = Nn → lv_has ls 7 [(0, .ref th), (1, .int n), (4, .ref q), (5, .int all), (6, .int i)] → i.toInt = ((k + 1 : Nat) : Int) → all.toInt = (zds Mm k : Int) → W p l e R s m args below meth c H locs nc ns Q (F0 m 98 ls []) := by
  have hR := zkDe_rows zDe90
  obtain ⟨hx, hb, -, -, -⟩ := id hF.1
  have t1 : (Int32.ofInt 1).toInt = 1 := by decide
  have hlt : (Int32.ofNat len).toInt = (len : Int) := Int32.toInt_ofNat_of_lt hlen.2
  intro d
  induction d with
  | zero =>
    intro k all i ls hk hl hi ha
    refine pv_W hx hb hR 2 101 [(0, .ref th), (1, .int n), (4, .ref q), (5, .int all), (6, .int i)] [.int n, .int i] rfl hl (fun ls hl => ?_)
    refine pv_icmp hF.1 hR .gt 27 128 rfl rfl (fun h => ?_) (fun h => ?_)
    · refine pv_W hx hb hR 1 130 [(0, .ref th), (1, .int n), (4, .ref q), (5, .int all), (6, .int i)] [.int all] rfl hl (fun ls hl => ?_)
      exact K all ls (by rw [ha]; congr 2) (lv_sub hl [] rfl)
    · have h : i.toInt ≤ n.toInt := h
      omega
  | succ d ih =>
    intro k all i ls hk hl hi ha
    have hab := zds_le Mm k
    refine pv_W hx hb hR 2 101 [(0, .ref th), (1, .int n), (4, .ref q), (5, .int all), (6, .int i)] [.int n, .int i] rfl hl (fun ls hl => ?_)
    refine pv_icmp hF.1 hR .gt 27 128 rfl rfl (fun h => ?_) (fun h => ?_)
    · have h : n.toInt < i.toInt := h
      omega
    refine pv_W hx hb hR 2 108 [(0, .ref th), (1, .int n), (4, .ref q), (5, .int all), (6, .int i)] [.ref q, .int i] rfl hl (fun ls hl => ?_)
    refine pa_alen hF.1 hpa.1 hpa.2.2.2 (pv_row hR rfl) ?_
    refine pv_icmp hF.1 hR .ge 19 128 rfl rfl (fun h => ?_) (fun _ => ?_)
    · have h : (Int32.ofNat len).toInt ≤ i.toInt := h
      omega
    refine pv_W hx hb hR 3 118 [(0, .ref th), (1, .int n), (4, .ref q), (5, .int all), (6, .int i)] [.int i, .ref q, .int all] rfl hl (fun ls hl => ?_)
    refine pa_ald hF.1 hpa.1 hpa.2.2.2 (by omega) (by omega) (pv_row hR rfl) ?_
    have hin : i.toInt.toNat = k + 1 := by omega
    rw [hin]
    have hfk := hf (k + 1) (by omega) (by omega)
    refine pv_W hx hb hR 4 98 [(6, .int (i + Int32.ofInt 1)), (5, .int (all + f (k + 1))), (0, .ref th), (1, .int n), (4, .ref q)] [] rfl hl (fun ls hl => ?_)
    refine ih (k + 1) (by omega) (lv_sub hl [2, 3, 4, 1, 0] rfl) (by rw [Jvm.Kit.i32_add (by omega) (by omega), t1, hi]; omega) ?_
    rw [Jvm.Kit.i32_add (by omega) (by omega), hfk, ha, zds]; omega
set_option maxRecDepth 100000 in
theorem zw_burna {Nn Mm th : Nat} {n mm j i : Int32} {H : Heap} {locs : List Loc} {f : Nat → Int32} {ls : Array Slot} (hF : sx_Frm D zCl zAO zTB b0 zM90 bud p R s m args meth c) (hoff : pa_off r FA) (hn : n.toInt = (Nn : Int)) (hN : Nn ≤ 500) (hlen : 500 < len ∧ len < 2 ^ 31) (hm : mm.toInt = (Mm : Int)) (hM : Mm ≤ 500) (hj : j.toInt = -1)
    (hi : i.toInt = 1) (hpa : pa_I FT D zCl (sxRT L) b0 s Sg ρ (K1, FA) q r len H locs f) (hf : ∀ k, k < len → (f k).toInt = 0) (hl : lv_has ls 7 [(0, .ref th), (1, .int n), (2, .int mm), (3, .int j), (4, .ref q), (5, .int i)])
    (K : ∀ (y : Int32) (H : Heap) (locs : List Loc) (ls : Array Slot) (f : Nat → Int32), pa_I FT D zCl (sxRT L) b0 s Sg ρ (K1, FA) q r len H locs f → y.toInt = (zds Mm Nn : Int) → lv_has ls 7 [] → W p l e R s m args below meth c H locs nc ns Q (F0 m 130 ls [.int y])) : W p l e R s m args below meth c H locs nc ns Q (F0 m 15 ls []) := by
  have hR := zkDe_rows zDe90
  obtain ⟨hx, hb, -, -, -⟩ := id hF.1
  have tm : (Int32.ofInt (-1)).toInt = -1 := by decide
  refine zl_burn2 hF.1 hoff hn hN hlen hm hM (fun H locs f ls hpa hf hl => ?_) Mm 0 (by omega) (by rw [hi]; rfl) hpa (fun x x1 x2 => by rw [hf x (by omega)]; rfl) hl
  refine pv_W hx hb hR 2 69 [(0, .ref th), (1, .int n), (2, .int mm), (3, .int j), (4, .ref q)] [.int (Int32.ofInt (-1)), .int j] rfl hl (fun ls hl => ?_)
  refine pv_icmp hF.1 hR .eq 23 92 rfl rfl (fun _ => ?_) (fun h => ?_)
  · refine pv_W hx hb hR 4 98 [(6, .int (Int32.ofInt 1)), (5, .int (Int32.ofInt 0)), (0, .ref th), (1, .int n), (2, .int mm), (3, .int j), (4, .ref q)] [] rfl hl (fun ls hl => ?_)
    exact zl_burn3 hF hn hN hlen hpa hf (fun y ls hy hl => K y H locs ls f hpa hy hl) Nn 0 (by omega) (lv_sub hl [2, 3, 6, 1, 0] rfl) (by decide) (show (Int32.ofInt 0).toInt = ((0 : Nat) : Int) by decide)
  · have h : j.toInt ≠ (Int32.ofInt (-1)).toInt := h
    omega
end ZBV
