/-! YEAR: the class's letterAt, yearsOfLetters and year -/
section ZY2
variable {L : Nat} {D : va_G} {b0 : Nat} {l : Launch} {Sg : Nat → Option Nat} {bud : sx_Bu} {nc ns : Nat} {p : Program} {e : Env} {R : Room} {s : State} {m : MethodId} {args : Array Value} {below : List Frame} {meth : Method} {c : Code} {Q : State → Prop} {H : Heap} {locs : List Loc}
set_option maxRecDepth 100000 in
theorem zl_years {Nn : Nat} {y w : Int32} (hF : sx_Frm D zCl zAO zTB b0 zM102 bud p R s m args meth c) (hb1 : 2 ≤ bud.1) (hb2 : 44 ≤ bud.2.1) (hnc : nc ≤ bud.2.2.1) (hns : ns ≤ bud.2.2.2) (hH : sx_H D zCl (sxRT L) b0 Sg s H) (hy : y.toInt = (Nn : Int)) (hN : Nn ≤ 3999)
    (K : ∀ (a : Int32) (ls' : Array Slot) (locs' : List Loc), va_S (fun q => b0 ≤ q) s.heap H locs' → a.toInt = (zyc w.toInt Nn : Int) → W p l e R s m args below meth c H locs' nc ns Q (F0 m 27 ls' [.int a])) :
    ∀ (d k : Nat) {found one : Int32} {ls : Array Slot} {locs : List Loc}, va_S (fun q => b0 ≤ q) s.heap H locs → k + d = Nn → lv_has ls 4 [(0, .int y), (1, .int w), (2, .int found), (3, .int one)] → one.toInt = ((k + 1 : Nat) : Int) → found.toInt = (zyc w.toInt k : Int) → W p l e R s m args below meth c H locs nc ns Q (F0 m 4 ls []) := by
  have hR := zkDe_rows zDe102
  have hC := hF.1
  obtain ⟨hx, hb, -, -, -⟩ := id hC
  have t1 : (Int32.ofInt 1).toInt = 1 := by decide
  intro d
  induction d with
  | zero =>
    intro k found one ls locs hV hk hl ho hf
    refine pv_W hx hb hR 2 6 [(0, .int y), (1, .int w), (2, .int found), (3, .int one)] [.int y, .int one] rfl hl (fun ls hl => ?_)
    refine pv_icmp hC hR .gt 20 26 rfl rfl (fun _ => ?_) (fun h => ?_)
    · refine pv_W hx hb hR 1 27 [(0, .int y), (1, .int w), (2, .int found), (3, .int one)] [.int found] rfl hl (fun ls hl => ?_)
      exact K found ls locs hV (by rw [hf]; congr 2)
    · have h : one.toInt ≤ y.toInt := h
      omega
  | succ d ih =>
    intro k found one ls locs hV hk hl ho hf
    have hfb := zyc_le w.toInt k
    refine pv_W hx hb hR 2 6 [(0, .int y), (1, .int w), (2, .int found), (3, .int one)] [.int y, .int one] rfl hl (fun ls hl => ?_)
    refine pv_icmp hC hR .gt 20 26 rfl rfl (fun h => ?_) (fun _ => ?_)
    · have h : y.toInt < one.toInt := h
      omega
    refine pv_W hx hb hR 1 10 [(0, .int y), (1, .int w), (2, .int found), (3, .int one)] [.int one] rfl hl (fun ls hl => ?_)
    refine zcall0 (L := L) (M := zM101) (vs := [.int one]) (rest := []) zD5 (83, 1, 101, 1) (by decide +kernel) rfl (by decide +kernel) rfl (zmt (j := 102) rfl) rfl hF rfl (Nat.le_of_ble_eq_true rfl) (Nat.le_of_ble_eq_true rfl) (by omega) (by show 19 + 4 ≤ _; omega) (fun h => by cases h) rfl rfl hnc hns (fun h => absurd rfl h) hH hV hl.1 (zc_letters (Y := k + 1) (by show 1 ≤ bud.1 - 1; omega) (by show 21 ≤ bud.2.1 - (19 + 4); omega) ho) (fun vo H2 locs2 k1 k2 k3 => ?_)
    obtain ⟨rfl, a, rfl, ha⟩ := k3
    have e1 : (one + Int32.ofInt 1).toInt = ((k + 1 + 1 : Nat) : Int) := by rw [Jvm.Kit.i32_add (by omega) (by omega), t1, ho]; omega
    refine pv_W hx hb hR 1 14 [(0, .int y), (1, .int w), (2, .int found), (3, .int one)] [.int w, .int a] rfl hl (fun ls hl => ?_)
    refine pv_icmp hC hR .ne 6 20 rfl rfl (fun h => ?_) (fun h => ?_)
    · have h : a.toInt ≠ w.toInt := h
      refine pv_W hx hb hR 2 4 [(3, .int (one + Int32.ofInt 1)), (0, .int y), (1, .int w), (2, .int found)] [] rfl hl (fun ls hl => ?_)
      refine ih (k + 1) k2 (by omega) (lv_sub hl [1, 2, 3, 0] rfl) e1 ?_
      rw [hf, zyc, if_neg (by omega)]; omega
    · have h : a.toInt = w.toInt := h
      refine pv_W hx hb hR 3 4 [(3, .int (one + Int32.ofInt 1)), (2, .int (found + Int32.ofInt 1)), (0, .int y), (1, .int w)] [] rfl hl (fun ls hl => ?_)
      refine ih (k + 1) k2 (by omega) (lv_sub hl [2, 3, 1, 0] rfl) e1 ?_
      rw [Jvm.Kit.i32_add (by omega) (by omega), t1, hf, zyc, if_pos (by omega)]; omega
set_option maxRecDepth 100000 in
theorem zc_years {Nn : Nat} {y w : Int32} (hb1 : 2 ≤ bud.1) (hb2 : 44 ≤ bud.2.1) (hy : y.toInt = (Nn : Int)) (hN : Nn ≤ 3999) : pv_CG D zCl (sxRT L) zAO zTB b0 l zM102 bud Sg H [.int y, .int w] (fun vo H2 => H2 = H ∧ ∃ a : Int32, vo = some (.int a) ∧ a.toInt = (zyc w.toInt Nn : Int)) := by
  intro p e R s m args below meth cc Q ls hF hh hH hl K
  have hR := zkDe_rows zDe102
  obtain ⟨hx, hb, -, -, -⟩ := id hF.1
  refine pv_W hx hb hR 4 4 [(3, .int (Int32.ofInt 1)), (2, .int (Int32.ofInt 0)), (0, .int y), (1, .int w)] [] rfl hl (fun ls hl => ?_)
  refine zl_years hF hb1 hb2 (Nat.zero_le _) (Nat.zero_le _) hH hy hN (fun a ls' locs' hV ha => ?_) Nn 0 (by rw [hh]; exact va_S.rf) (Nat.zero_add _) (lv_sub hl [2, 3, 1, 0] rfl) (by decide) (show (Int32.ofInt 0).toInt = ((0 : Nat) : Int) by decide)
  exact K (some (.int a)) H locs' .ireturn 27 ls' hH hV ⟨rfl, a, rfl, ha⟩ (Or.inl ⟨rfl, rfl, _, rfl⟩) (pv_row hR rfl)
/-- one sign's letters -/
theorem zl_la1 {j th0 : Nat} {y i : Int32} {X : Int32} (hF : sx_Frm D zCl zAO zTB b0 zM103 bud p R s m args meth c) (hV : va_S (fun q => b0 ≤ q) s.heap H locs) (hj : j < 13) (hth : th0 ≤ 200) (tail : Int → List Int32)
    (Kx : ∀ (pc : Nat) (ls' : Array Slot), pc = 55 ∨ pc = 80 → W p l e R s m args below meth c H locs nc ns Q (F0 m pc ls' [.int X]))
    (K : ∀ (r : Int) (A : Nat) (at' rest' : Int32) (ls : Array Slot) (t' : Int32) (sg : Int32), 0 ≤ r → r ≤ 4000 → A ≤ th0 + 6 → rest'.toInt = r → at'.toInt = (A : Int) → sg.toInt = (j : Int) → znth (tail r) (i.toInt - A) = X → lv_has ls 6 [(0, .int y), (1, .int i), (2, .int rest'), (3, .int at'), (4, .int sg), (5, .int t')] → W p l e R s m args below meth c H locs nc ns Q (F0 m 90 ls [])) :
    ∀ (t : Nat) (r : Int) (A : Nat) {rest at' sg tt : Int32} {ls : Array Slot}, t ≤ 3 → 0 ≤ r → r ≤ 4000 → A + 2 * t ≤ th0 + 6 → rest.toInt = r → at'.toInt = (A : Int) → sg.toInt = (j : Int) → tt.toInt = 3 - (t : Int) → znth ((zct t r (zSW.getD j 0) (Int32.ofInt (zSF.getD j 0)) (Int32.ofInt (zSS.getD j 0))).1 ++ tail (zct t r (zSW.getD j 0) (Int32.ofInt (zSF.getD j 0)) (Int32.ofInt (zSS.getD j 0))).2) (i.toInt - A) = X →
      lv_has ls 6 [(0, .int y), (1, .int i), (2, .int rest), (3, .int at'), (4, .int sg), (5, .int tt)] → W p l e R s m args below meth c H locs nc ns Q (F0 m 19 ls []) := by
  have hR := zkDe_rows zDe103
  have hC := hF.1
  obtain ⟨hx, hb, -, -, -⟩ := id hC
  have t3 : (Int32.ofInt 3).toInt = 3 := by decide
  have t1 : (Int32.ofInt 1).toInt = 1 := by decide
  have tm : (Int32.ofInt (-1)).toInt = -1 := by decide
  have hw : (Int32.ofInt (zSW.getD j 0)).toInt = zSW.getD j 0 ∧ 1 ≤ zSW.getD j 0 ∧ zSW.getD j 0 ≤ 1000 := (show ∀ j, j < 13 → (Int32.ofInt (zSW.getD j 0)).toInt = zSW.getD j 0 ∧ 1 ≤ zSW.getD j 0 ∧ zSW.getD j 0 ≤ 1000 by decide) j hj
  generalize hW : zSW.getD j 0 = w at hw ⊢
  generalize hFF : Int32.ofInt (zSF.getD j 0) = ff
  generalize hSS : Int32.ofInt (zSS.getD j 0) = ss
  intro t
  induction t with
  | zero =>
    intro r A rest at' sg tt ls ht r0 r1 hA hrest hat hsg htt hX hl
    refine pv_W hx hb hR 2 22 [(0, .int y), (1, .int i), (2, .int rest), (3, .int at'), (4, .int sg), (5, .int tt)] [.int (Int32.ofInt 3), .int tt] rfl hl (fun ls hl => ?_)
    refine pv_icmp hC hR .ge 68 90 rfl rfl (fun _ => ?_) (fun h => ?_)
    · exact K r A at' rest ls tt sg r0 r1 (by omega) hrest hat hsg hX hl
    · have h : tt.toInt < (Int32.ofInt 3).toInt := h
      omega
  | succ t ih =>
    intro r A rest at' sg tt ls ht r0 r1 hA hrest hat hsg htt hX hl
    refine pv_W hx hb hR 2 22 [(0, .int y), (1, .int i), (2, .int rest), (3, .int at'), (4, .int sg), (5, .int tt)] [.int (Int32.ofInt 3), .int tt] rfl hl (fun ls hl => ?_)
    refine pv_icmp hC hR .ge 68 90 rfl rfl (fun h => ?_) (fun _ => ?_)
    · have h : (Int32.ofInt 3).toInt ≤ tt.toInt := h
      omega
    have hsn : sg.toInt.toNat = j := by omega
    refine pv_W hx hb hR 1 26 [(0, .int y), (1, .int i), (2, .int rest), (3, .int at'), (4, .int sg), (5, .int tt)] [.int rest] rfl hl (fun ls hl => ?_)
    refine zgets ("ArcadePoles$Puzzles", "SIGN_WORTH", zSW) (by decide +kernel) 74 (ztw zk74) (zmt (j := 103) rfl) rfl hF hV (fun ad hT => ?_)
    refine pv_W hx hb hR 1 31 [(0, .int y), (1, .int i), (2, .int rest), (3, .int at'), (4, .int sg), (5, .int tt)] [.int sg, .ref ad, .int rest] rfl hl (fun ls hl => ?_)
    refine ztld hC hT hV (by omega) (by show sg.toInt < ((13 : Nat) : Int); omega) (pv_row hR rfl) ?_
    rw [hsn, hW]
    refine pv_icmp hC hR .lt 58 90 rfl rfl (fun h => ?_) (fun h => ?_)
    · have h : rest.toInt < (Int32.ofInt w).toInt := h
      simp only [zct] at hX
      rw [if_neg (by omega)] at hX
      exact K r A at' rest ls tt sg r0 r1 (by omega) hrest hat hsg hX hl
    have h : (Int32.ofInt w).toInt ≤ rest.toInt := h
    simp only [zct] at hX
    rw [if_pos (by omega)] at hX
    have hrw : (rest - Int32.ofInt w).toInt = r - w := by rw [Jvm.Kit.i32_sub (by omega) (by omega)]; omega
    refine pv_W hx hb hR 1 36 [(0, .int y), (1, .int i), (2, .int rest), (3, .int at'), (4, .int sg), (5, .int tt)] [.int rest] rfl hl (fun ls hl => ?_)
    refine zgets ("ArcadePoles$Puzzles", "SIGN_WORTH", zSW) (by decide +kernel) 74 (ztw zk74) (zmt (j := 103) rfl) rfl hF hV (fun ad hT => ?_)
    refine pv_W hx hb hR 1 41 [(0, .int y), (1, .int i), (2, .int rest), (3, .int at'), (4, .int sg), (5, .int tt)] [.int sg, .ref ad, .int rest] rfl hl (fun ls hl => ?_)
    refine ztld hC hT hV (by omega) (by show sg.toInt < ((13 : Nat) : Int); omega) (pv_row hR rfl) ?_
    rw [hsn, hW]
    refine pv_W hx hb hR 4 46 [(2, .int (rest - Int32.ofInt w)), (0, .int y), (1, .int i), (3, .int at'), (4, .int sg), (5, .int tt)] [.int i, .int at'] rfl hl (fun ls hl => ?_)
    refine pv_icmp hC hR .ne 10 56 rfl rfl (fun h => ?_) (fun h => ?_)
    · have h : at'.toInt ≠ i.toInt := h
      have e1 : (at' + Int32.ofInt 1).toInt = ((A + 1 : Nat) : Int) := by rw [Jvm.Kit.i32_add (by omega) (by omega), t1, hat]; omega
      have e2 : (tt + Int32.ofInt 1).toInt = 3 - (t : Int) := by rw [Jvm.Kit.i32_add (by omega) (by omega), t1, htt]; omega
      refine pv_W hx hb hR 1 59 [(3, .int (at' + Int32.ofInt 1)), (2, .int (rest - Int32.ofInt w)), (0, .int y), (1, .int i), (4, .int sg), (5, .int tt)] [] rfl hl (fun ls hl => ?_)
      refine zgets ("ArcadePoles$Puzzles", "SIGN_SECOND", zSS) (by decide +kernel) 80 (ztw zk80) (zmt (j := 103) rfl) rfl hF hV (fun ad hT => ?_)
      refine pv_W hx hb hR 1 64 [(3, .int (at' + Int32.ofInt 1)), (2, .int (rest - Int32.ofInt w)), (0, .int y), (1, .int i), (4, .int sg), (5, .int tt)] [.int sg, .ref ad] rfl hl (fun ls hl => ?_)
      refine ztld hC hT hV (by omega) (by show sg.toInt < ((13 : Nat) : Int); omega) (pv_row hR rfl) ?_
      rw [hsn, hSS]
      rw [List.cons_append, znth_cons (by omega)] at hX
      have hXk : i.toInt - (A : Int) - 1 = i.toInt - ((A + 1 : Nat) : Int) := by omega
      rw [hXk] at hX
      refine pv_W hx hb hR 1 66 [(3, .int (at' + Int32.ofInt 1)), (2, .int (rest - Int32.ofInt w)), (0, .int y), (1, .int i), (4, .int sg), (5, .int tt)] [.int (Int32.ofInt (-1)), .int ss] rfl hl (fun ls hl => ?_)
      refine pv_icmp hC hR .eq 18 84 rfl rfl (fun h2 => ?_) (fun h2 => ?_)
      · have h2 : ss.toInt = (Int32.ofInt (-1)).toInt := h2
        rw [if_pos (by omega)] at hX
        refine pv_W hx hb hR 2 19 [(5, .int (tt + Int32.ofInt 1)), (3, .int (at' + Int32.ofInt 1)), (2, .int (rest - Int32.ofInt w)), (0, .int y), (1, .int i), (4, .int sg)] [] rfl hl (fun ls hl => ?_)
        exact ih (r - w) (A + 1) (by omega) (by omega) (by omega) (by omega) hrw e1 hsg e2 hX (lv_sub hl [3, 4, 2, 1, 5, 0] rfl)
      · have h2 : ss.toInt ≠ (Int32.ofInt (-1)).toInt := h2
        rw [if_neg (by omega)] at hX
        refine pv_W hx hb hR 2 71 [(3, .int (at' + Int32.ofInt 1)), (2, .int (rest - Int32.ofInt w)), (0, .int y), (1, .int i), (4, .int sg), (5, .int tt)] [.int i, .int (at' + Int32.ofInt 1)] rfl hl (fun ls hl => ?_)
        refine pv_icmp hC hR .ne 10 81 rfl rfl (fun h3 => ?_) (fun h3 => ?_)
        · have h3 : (at' + Int32.ofInt 1).toInt ≠ i.toInt := h3
          rw [List.cons_append, znth_cons (by omega)] at hX
          have hXk2 : i.toInt - ((A + 1 : Nat) : Int) - 1 = i.toInt - ((A + 2 : Nat) : Int) := by omega
          rw [hXk2] at hX
          have e3 : (at' + Int32.ofInt 1 + Int32.ofInt 1).toInt = ((A + 2 : Nat) : Int) := by rw [Jvm.Kit.i32_add (by omega) (by omega), t1, e1]; omega
          refine pv_W hx hb hR 3 19 [(5, .int (tt + Int32.ofInt 1)), (3, .int (at' + Int32.ofInt 1 + Int32.ofInt 1)), (2, .int (rest - Int32.ofInt w)), (0, .int y), (1, .int i), (4, .int sg)] [] rfl hl (fun ls hl => ?_)
          exact ih (r - w) (A + 2) (by omega) (by omega) (by omega) (by omega) hrw e3 hsg e2 hX (lv_sub hl [3, 4, 2, 1, 5, 0] rfl)
        · have h3 : (at' + Int32.ofInt 1).toInt = i.toInt := h3
          have hX0 : ss = X := by
            have e0 : i.toInt - ((A + 1 : Nat) : Int) = 0 := by omega
            rw [e0] at hX
            exact hX
          refine zgets ("ArcadePoles$Puzzles", "SIGN_SECOND", zSS) (by decide +kernel) 80 (ztw zk80) (zmt (j := 103) rfl) rfl hF hV (fun ad hT => ?_)
          refine pv_W hx hb hR 1 79 [(3, .int (at' + Int32.ofInt 1)), (2, .int (rest - Int32.ofInt w)), (0, .int y), (1, .int i), (4, .int sg), (5, .int tt)] [.int sg, .ref ad] rfl hl (fun ls hl => ?_)
          refine ztld hC hT hV (by omega) (by show sg.toInt < ((13 : Nat) : Int); omega) (pv_row hR rfl) ?_
          rw [hsn, hSS, hX0]
          exact Kx 80 ls (Or.inr rfl)
    · have h : at'.toInt = i.toInt := h
      have hX0 : ff = X := by
        have e0 : i.toInt - (A : Int) = 0 := by omega
        rw [e0] at hX
        exact hX
      refine zgets ("ArcadePoles$Puzzles", "SIGN_FIRST", zSF) (by decide +kernel) 77 (ztw zk77) (zmt (j := 103) rfl) rfl hF hV (fun ad hT => ?_)
      refine pv_W hx hb hR 1 54 [(2, .int (rest - Int32.ofInt w)), (0, .int y), (1, .int i), (3, .int at'), (4, .int sg), (5, .int tt)] [.int sg, .ref ad] rfl hl (fun ls hl => ?_)
      refine ztld hC hT hV (by omega) (by show sg.toInt < ((13 : Nat) : Int); omega) (pv_row hR rfl) ?_
      rw [hsn, hFF, hX0]
      exact Kx 55 ls (Or.inl rfl)
theorem zl_la2 {y i : Int32} {X : Int32} (hF : sx_Frm D zCl zAO zTB b0 zM103 bud p R s m args meth c) (hV : va_S (fun q => b0 ≤ q) s.heap H locs)
    (Kx : ∀ (pc : Nat) (ls' : Array Slot), pc = 55 ∨ pc = 80 ∨ pc = 97 → W p l e R s m args below meth c H locs nc ns Q (F0 m pc ls' [.int X])) :
    ∀ (d j : Nat) (r : Int) (A : Nat) {rest at' sg : Int32} {ls : Array Slot}, j + d = 13 → 0 ≤ r → r ≤ 4000 → A ≤ 6 * j → rest.toInt = r → at'.toInt = (A : Int) → sg.toInt = (j : Int) → znth (zcw d j r) (i.toInt - A) = X →
      lv_has ls 6 [(0, .int y), (1, .int i), (2, .int rest), (3, .int at'), (4, .int sg)] → W p l e R s m args below meth c H locs nc ns Q (F0 m 7 ls []) := by
  have hR := zkDe_rows zDe103
  have hC := hF.1
  obtain ⟨hx, hb, -, -, -⟩ := id hC
  have t1 : (Int32.ofInt 1).toInt = 1 := by decide
  have t13 : (Int32.ofNat 13).toInt = 13 := by decide
  intro d
  induction d with
  | zero =>
    intro j r A rest at' sg ls hj r0 r1 hA hrest hat hsg hX hl
    refine pv_W hx hb hR 1 9 [(0, .int y), (1, .int i), (2, .int rest), (3, .int at'), (4, .int sg)] [.int sg] rfl hl (fun ls hl => ?_)
    refine zgets ("ArcadePoles$Puzzles", "SIGN_WORTH", zSW) (by decide +kernel) 74 (ztw zk74) (zmt (j := 103) rfl) rfl hF hV (fun ad hT => ?_)
    refine va_tlen hx hb hT hV (v := Int32.ofNat 13) rfl (pv_row hR rfl) ?_
    refine pv_icmp hC hR .ge 83 96 rfl rfl (fun _ => ?_) (fun h => ?_)
    · refine pv_W hx hb hR 1 97 [(0, .int y), (1, .int i), (2, .int rest), (3, .int at'), (4, .int sg)] [.int (Int32.ofInt (-1))] rfl hl (fun ls hl => ?_)
      have hX2 : Int32.ofInt (-1) = X := by
        rw [← hX, show zcw 0 j r = [] from rfl, znth_nil]; decide
      rw [hX2]
      exact Kx 97 ls (Or.inr (Or.inr rfl))
    · have h : sg.toInt < (Int32.ofNat 13).toInt := h
      omega
  | succ d ih =>
    intro j r A rest at' sg ls hj r0 r1 hA hrest hat hsg hX hl
    refine pv_W hx hb hR 1 9 [(0, .int y), (1, .int i), (2, .int rest), (3, .int at'), (4, .int sg)] [.int sg] rfl hl (fun ls hl => ?_)
    refine zgets ("ArcadePoles$Puzzles", "SIGN_WORTH", zSW) (by decide +kernel) 74 (ztw zk74) (zmt (j := 103) rfl) rfl hF hV (fun ad hT => ?_)
    refine va_tlen hx hb hT hV (v := Int32.ofNat 13) rfl (pv_row hR rfl) ?_
    refine pv_icmp hC hR .ge 83 96 rfl rfl (fun h => ?_) (fun _ => ?_)
    · have h : (Int32.ofNat 13).toInt ≤ sg.toInt := h
      omega
    refine pv_W hx hb hR 2 19 [(5, .int (Int32.ofInt 0)), (0, .int y), (1, .int i), (2, .int rest), (3, .int at'), (4, .int sg)] [] rfl hl (fun ls hl => ?_)
    refine zl_la1 (j := j) (th0 := 6 * j) (X := X) hF hV (by omega) (by omega) (zcw d (j + 1)) (fun pc ls' hpc => Kx pc ls' (hpc.imp id (fun h => Or.inl h))) (fun r A at' rest ls t' sg r0 r1 hA hrest hat hsg hX hl => ?_) 3 r A (Nat.le_refl _) r0 r1 (by omega) hrest hat hsg (by decide) hX (lv_sub hl [1, 2, 3, 4, 5, 0] rfl)
    refine pv_W hx hb hR 2 7 [(4, .int (sg + Int32.ofInt 1)), (0, .int y), (1, .int i), (2, .int rest), (3, .int at'), (5, .int t')] [] rfl hl (fun ls hl => ?_)
    exact ih (j + 1) r A (by omega) r0 r1 (by omega) hrest hat (by rw [Jvm.Kit.i32_add (by omega) (by omega), t1, hsg]; omega) hX (lv_sub hl [1, 2, 3, 4, 0] rfl)
theorem zc_letterAt {y i : Int32} (h0 : 0 ≤ y.toInt) (h1 : y.toInt ≤ 4000) : pv_CG D zCl (sxRT L) zAO zTB b0 l zM103 bud Sg H [.int y, .int i] (fun vo H2 => H2 = H ∧ vo = some (.int (znth (zcw 13 0 y.toInt) i.toInt))) := by
  intro p e R s m args below meth cc Q ls hF hh hH hl K
  have hR := zkDe_rows zDe103
  obtain ⟨hx, hb, -, -, -⟩ := id hF.1
  refine pv_W hx hb hR 6 7 [(4, .int (Int32.ofInt 0)), (3, .int (Int32.ofInt 0)), (2, .int y), (0, .int y), (1, .int i)] [] rfl hl (fun ls hl => ?_)
  refine zl_la2 (X := znth (zcw 13 0 y.toInt) i.toInt) hF (by rw [hh]; exact va_S.rf) (fun pc ls' hpc => ?_) 13 0 y.toInt 0 (Nat.zero_add _) h0 h1 (Nat.le_refl _) rfl (show (Int32.ofInt 0).toInt = ((0 : Nat) : Int) by decide) (show (Int32.ofInt 0).toInt = ((0 : Nat) : Int) by decide) (by rw [show i.toInt - ((0 : Nat) : Int) = i.toInt by omega]) (lv_sub hl [3, 4, 2, 1, 0] rfl)
  have hd : decode zM103.1.2.1 pc = .ok (.ireturn, 1) := by
    rcases hpc with rfl | rfl | rfl
    · exact pv_row hR rfl
    · exact pv_row hR rfl
    · exact pv_row hR rfl
  exact K (some (.int _)) H [] .ireturn pc ls' hH (by rw [hh]; exact va_S.rf) ⟨rfl, rfl⟩ (Or.inl ⟨rfl, rfl, _, rfl⟩) hd
/-! the class's year: the letters' number, the years', one letter -/
set_option maxRecDepth 100000 in
theorem zw_year0 {Y : Nat} {th : Nat} {y w : Int32} {ls : Array Slot} (hF : sx_Frm D zCl zAO zTB b0 zM100 bud p R s m args meth c) (hb1 : 2 ≤ bud.1) (hb2 : 44 ≤ bud.2.1) (hnc : nc ≤ bud.2.2.1) (hns : ns ≤ bud.2.2.2) (hH : sx_H D zCl (sxRT L) b0 Sg s H) (hV : va_S (fun q => b0 ≤ q) s.heap H locs) (hl : lv_has ls 3 [(0, .ref th), (1, .int y), (2, .int w)]) (hy : y.toInt = (Y : Int))
    (K : ∀ (a : Int32) (ls' : Array Slot) (locs' : List Loc), va_S (fun q => b0 ≤ q) s.heap H locs' → a.toInt = (zyk 4 Y : Int) → lv_has ls' 3 [] → W p l e R s m args below meth c H locs' nc ns Q (F0 m 21 ls' [.int a])) : W p l e R s m args below meth c H locs nc ns Q (F0 m 17 ls []) := by
  have hR := zkDe_rows zDe100
  obtain ⟨hx, hb, -, -, -⟩ := id hF.1
  refine pv_W hx hb hR 1 18 [(0, .ref th), (1, .int y), (2, .int w)] [.int y] rfl hl (fun ls hl => ?_)
  refine zcall0 (L := L) (M := zM101) (vs := [.int y]) (rest := []) zD11 (365, 1, 101, 1) (by decide +kernel) rfl (by decide +kernel) rfl (zmt (j := 100) rfl) rfl hF rfl (Nat.le_of_ble_eq_true rfl) (Nat.le_of_ble_eq_true rfl) (by omega) (by show 19 + 4 ≤ _; omega) (fun h => by cases h) rfl rfl hnc hns (fun h => absurd rfl h) hH hV hl.1 (zc_letters (by show 1 ≤ bud.1 - 1; omega) (by show 21 ≤ bud.2.1 - (19 + 4); omega) hy) (fun vo H2 locs2 k1 k2 k3 => ?_)
  obtain ⟨rfl, a, rfl, ha⟩ := k3
  exact K a ls locs2 k2 ha (lv_sub hl [] rfl)
set_option maxRecDepth 100000 in
theorem zw_year1 {Y : Nat} {th : Nat} {y w : Int32} {ls : Array Slot} (hF : sx_Frm D zCl zAO zTB b0 zM100 bud p R s m args meth c) (hb1 : 3 ≤ bud.1) (hb2 : 67 ≤ bud.2.1) (hnc : nc ≤ bud.2.2.1) (hns : ns ≤ bud.2.2.2) (hH : sx_H D zCl (sxRT L) b0 Sg s H) (hV : va_S (fun q => b0 ≤ q) s.heap H locs) (hl : lv_has ls 3 [(0, .ref th), (1, .int y), (2, .int w)]) (hy : y.toInt = (Y : Int)) (hY : Y ≤ 3999) (hw : 0 ≤ w.toInt)
    (K : ∀ (a : Int32) (ls' : Array Slot) (locs' : List Loc), va_S (fun q => b0 ≤ q) s.heap H locs' → a.toInt = (zyc (w.toInt - 100) Y : Int) → lv_has ls' 3 [] → W p l e R s m args below meth c H locs' nc ns Q (F0 m 41 ls' [.int a])) : W p l e R s m args below meth c H locs nc ns Q (F0 m 33 ls []) := by
  have hR := zkDe_rows zDe100
  obtain ⟨hx, hb, -, -, -⟩ := id hF.1
  have t100 : (b8 100).toInt = 100 := by decide
  refine pv_W hx hb hR 4 38 [(0, .ref th), (1, .int y), (2, .int w)] [.int (w - b8 100), .int y] rfl hl (fun ls hl => ?_)
  have hw1 : (w - b8 100).toInt = w.toInt - 100 := by rw [Jvm.Kit.i32_sub (by omega) (by have := Int32.toInt_lt w; omega), t100]
  refine zcall0 (L := L) (M := zM102) (vs := [.int y, .int (w - b8 100)]) (rest := []) zD11 (368, 1, 102, 2) (by decide +kernel) rfl (by decide +kernel) rfl (zmt (j := 100) rfl) rfl hF rfl (Nat.le_of_ble_eq_true rfl) (Nat.le_of_ble_eq_true rfl) (by omega) (by show 19 + 4 ≤ _; omega) (fun h => by cases h) rfl rfl hnc hns (fun h => absurd rfl h) hH hV hl.1 (zc_years (by show 2 ≤ bud.1 - 1; omega) (by show 44 ≤ bud.2.1 - (19 + 4); omega) hy hY) (fun vo H2 locs2 k1 k2 k3 => ?_)
  obtain ⟨rfl, a, rfl, ha⟩ := k3
  exact K a ls locs2 k2 (by rw [ha, hw1]) (lv_sub hl [] rfl)
/-- the letter that stands at a place, told from 1 on -/
def zla (l : List Int32) (w : Int) : Int32 := if 1 ≤ w ∧ w ≤ l.length then l.getD (w - 1).toNat (-1) else -1
theorem znth_sub {l : List Int32} {w x : Int32} (hl : l.length ≤ 100) (hx : x = w - Int32.ofInt 1) : znth l x.toInt = zla l w.toInt := by
  have t1 : (Int32.ofInt 1).toInt = 1 := by decide
  have hwl := Int32.toInt_lt w
  have hwg := Int32.le_toInt w
  unfold znth zla
  by_cases h : w.toInt = -2147483648
  · have hw : w = Int32.ofInt (-2147483648) := Int32.toInt_inj.mp (by rw [h]; decide)
    have e : x.toInt = 2147483647 := by rw [hx, hw]; decide
    rw [e, if_pos (by omega), if_neg (by omega), List.getD_eq_getElem?_getD, List.getElem?_eq_none (by show l.length ≤ 2147483647; omega)]; rfl
  · have e : x.toInt = w.toInt - 1 := by rw [hx, Jvm.Kit.i32_sub (by omega) (by omega), t1]
    rw [e]
    by_cases h1 : 1 ≤ w.toInt
    · rw [if_pos (by omega)]
      by_cases h2 : w.toInt ≤ l.length
      · rw [if_pos ⟨h1, h2⟩]
      · rw [if_neg (fun q => h2 q.2), List.getD_eq_getElem?_getD, List.getElem?_eq_none (by omega)]; rfl
    · rw [if_neg (by omega), if_neg (fun q => h1 q.1)]
set_option maxRecDepth 100000 in
theorem zw_year2 {th : Nat} {y w : Int32} {ls : Array Slot} (hF : sx_Frm D zCl zAO zTB b0 zM100 bud p R s m args meth c) (hb1 : 2 ≤ bud.1) (hb2 : 44 ≤ bud.2.1) (hnc : nc ≤ bud.2.2.1) (hns : ns ≤ bud.2.2.2) (hH : sx_H D zCl (sxRT L) b0 Sg s H) (hV : va_S (fun q => b0 ≤ q) s.heap H locs) (hl : lv_has ls 3 [(0, .ref th), (1, .int y), (2, .int w)]) (h0 : 0 ≤ y.toInt) (h1 : y.toInt ≤ 4000) (hlen : (zcw 13 0 y.toInt).length ≤ 100)
    (K : ∀ (ls' : Array Slot) (locs' : List Loc), va_S (fun q => b0 ≤ q) s.heap H locs' → lv_has ls' 3 [] → W p l e R s m args below meth c H locs' nc ns Q (F0 m 49 ls' [.int (zla (zcw 13 0 y.toInt) w.toInt)])) : W p l e R s m args below meth c H locs nc ns Q (F0 m 42 ls []) := by
  have hR := zkDe_rows zDe100
  obtain ⟨hx, hb, -, -, -⟩ := id hF.1
  refine pv_W hx hb hR 4 46 [(0, .ref th), (1, .int y), (2, .int w)] [.int (w - Int32.ofInt 1), .int y] rfl hl (fun ls hl => ?_)
  refine zcall0 (L := L) (M := zM103) (vs := [.int y, .int (w - Int32.ofInt 1)]) (rest := []) zD11 (371, 1, 103, 2) (by decide +kernel) rfl (by decide +kernel) rfl (zmt (j := 100) rfl) rfl hF rfl (Nat.le_of_ble_eq_true rfl) (Nat.le_of_ble_eq_true rfl) (by omega) (by show 19 + 6 ≤ _; omega) (fun h => by cases h) rfl rfl hnc hns (fun h => absurd rfl h) hH hV hl.1 (zc_letterAt h0 h1) (fun vo H2 locs2 k1 k2 k3 => ?_)
  obtain ⟨rfl, rfl⟩ := k3
  rw [znth_sub hlen rfl]
  exact K ls locs2 k2 (lv_sub hl [] rfl)
end ZY2
