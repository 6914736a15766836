/-! YEAR: how many letters, which, in how many years: the class's -/
def zSL : List Int := [0, 1, 2, 3, 2, 1, 2, 3, 4, 2]
def zSW : List Int := [1000, 900, 500, 400, 100, 90, 50, 40, 10, 9, 5, 4, 1]
def zSF : List Int := [6, 4, 5, 4, 4, 2, 3, 2, 2, 0, 1, 0, 0]
def zSS : List Int := [-1, 6, -1, 5, -1, 4, -1, 3, -1, 2, -1, 1, -1]
def zlc (d : Nat) : Nat := (zSL.getD d 0).toNat
def zyk : Nat → Nat → Nat
  | 0, _ => 0
  | k + 1, r => zlc (r % 10) + zyk k (r / 10)
def zyc (k : Int) : Nat → Nat
  | 0 => 0
  | n + 1 => zyc k n + (if (zyk 4 (n + 1) : Int) = k then 1 else 0)
theorem zlc_le (d : Nat) : zlc d ≤ 4 := by
  by_cases h : d < 10
  · exact (show ∀ d, d < 10 → zlc d ≤ 4 by decide) d h
  · have : zSL.getD d 0 = 0 := by
      rw [List.getD_eq_getElem?_getD, List.getElem?_eq_none (by show 10 ≤ d; omega)]; rfl
    unfold zlc
    rw [this]; decide
theorem zyk_le : ∀ (k r : Nat), zyk k r ≤ 4 * k
  | 0, _ => Nat.le_refl _
  | k + 1, r => by
    have h1 := zlc_le (r % 10)
    have h2 := zyk_le k (r / 10)
    simp only [zyk]; omega
theorem zyc_le (k : Int) : ∀ n, zyc k n ≤ n
  | 0 => Nat.le_refl 0
  | n + 1 => by
    have := zyc_le k n
    simp only [zyc]
    split <;> omega
/-- one sign, taken at most so often: what is written, what is left -/
def zct : Nat → Int → Int → Int32 → Int32 → List Int32 × Int
  | 0, rest, _, _, _ => ([], rest)
  | t + 1, rest, w, f, s => if w ≤ rest then (f :: (if s.toInt = -1 then (zct t (rest - w) w f s).1 else s :: (zct t (rest - w) w f s).1), (zct t (rest - w) w f s).2) else ([], rest)
def zcw : Nat → Nat → Int → List Int32
  | 0, _, _ => []
  | d + 1, j, rest => (zct 3 rest (zSW.getD j 0) (Int32.ofInt (zSF.getD j 0)) (Int32.ofInt (zSS.getD j 0))).1 ++ zcw d (j + 1) (zct 3 rest (zSW.getD j 0) (Int32.ofInt (zSF.getD j 0)) (Int32.ofInt (zSS.getD j 0))).2
def znth (l : List Int32) (k : Int) : Int32 := if 0 ≤ k then l.getD k.toNat (-1) else -1
theorem znth_cons {x : Int32} {l : List Int32} {k : Int} (h : k ≠ 0) : znth (x :: l) k = znth l (k - 1) := by
  unfold znth
  by_cases h0 : 0 ≤ k
  · rw [if_pos h0, if_pos (by omega)]
    obtain ⟨n, hn⟩ : ∃ n, k.toNat = n + 1 := ⟨k.toNat - 1, by omega⟩
    have : (k - 1).toNat = n := by omega
    rw [hn, this]; rfl
  · rw [if_neg h0, if_neg (by omega)]
theorem znth_0 {x : Int32} {l : List Int32} : znth (x :: l) 0 = x := rfl
theorem znth_nil {k : Int} : znth [] k = -1 := by
  unfold znth
  split <;> rfl
theorem zct_rest : ∀ (t : Nat) {rest w : Int} {f s : Int32}, 0 ≤ rest → 0 ≤ (zct t rest w f s).2 ∧ ((zct t rest w f s).2 ≤ rest ∨ w < 0)
  | 0, rest, w, f, s, h => ⟨h, Or.inl (Int.le_refl _)⟩
  | t + 1, rest, w, f, s, h => by
    simp only [zct]
    split
    · rename_i hw
      have := zct_rest t (rest := rest - w) (w := w) (f := f) (s := s) (by omega)
      exact ⟨this.1, by rcases this.2 with h | h
                        · by_cases hw0 : w < 0
                          · exact Or.inr hw0
                          · exact Or.inl (by show (zct t (rest - w) w f s).2 ≤ rest; omega)
                        · exact Or.inr h⟩
    · exact ⟨h, Or.inl (Int.le_refl _)⟩
section ZY
variable {L : Nat} {D : va_G} {b0 : Nat} {l : Launch} {Sg : Nat → Option Nat} {bud : sx_Bu} {nc ns : Nat} {p : Program} {e : Env} {R : Room} {s : State} {m : MethodId} {args : Array Value} {below : List Frame} {meth : Method} {c : Code} {Q : State → Prop} {H : Heap} {locs : List Loc}
theorem zgets {M0 : sx_Me} {pc : Nat} {ls : Array Slot} {rest : List Value} (z : String × String × List Int) (hz : z ∈ zAO.2) (idx : Nat) (hlink : Cond.fieldLink M0.1.1.cls idx z.1 z.2.1 "[I" ∈ zTB) (hM0 : M0 ∈ zMT.flatten) (hrow : sx_row M0.2.1 pc = some (pc, .getstatic idx, 3)) (hF : sx_Frm D zCl zAO zTB b0 M0 bud p R s m args meth c) (hV : va_S (fun q => b0 ≤ q) s.heap H locs)
    (kk : ∀ a : Nat, va_T .int a z.2.2.length (fun j => .int (Int32.ofInt (z.2.2.getD j 0))) (fun q => b0 ≤ q) s s.heap → W p l e R s m args below meth c H locs nc ns Q (F0 m (pc + 3) ls (.ref a :: rest))) : W p l e R s m args below meth c H locs nc ns Q (F0 m pc ls rest) := by
  obtain ⟨a, h1, h2⟩ := hF.2.2.2.2.2.2.2.2.2.2 z hz
  exact va_gets hF.1.1 hF.1.2.1 h1 hV hF.1.2.2.2.1 (hF.1.2.2.2.2 _ hlink) (fun x hx => hx) (pv_row (zHme M0 hM0).1 hrow) (kk a h2)
theorem ztld {cc : ByteArray} {own : String} {Ts : List Cond} {nL pc a N : Nat} {g : Nat → Int32} {ls : Array Slot} {rest : List Value} {i : Int32} (hC : sx_Cx p s m args c cc nL own Ts) (hT : va_T .int a N (fun j => .int (g j)) (fun q => b0 ≤ q) s s.heap) (hV : va_S (fun q => b0 ≤ q) s.heap H locs) (h0 : 0 ≤ i.toInt) (h1 : i.toInt < N) (hd : decode cc pc = .ok (.iaload, 1))
    (kk : W p l e R s m args below meth c H locs nc ns Q (F0 m (pc + 1) ls (.int (g i.toInt.toNat) :: rest))) : W p l e R s m args below meth c H locs nc ns Q (F0 m pc ls (.int i :: .ref a :: rest)) := by
  have hcl : i.toNatClampNeg = i.toInt.toNat := rfl
  have e0 : (0 : Int32).toInt = 0 := by decide
  exact va_ti hC.1 hC.2.1 hT hV (fun h => by
    rcases h with h | h
    · rw [Int32.lt_iff_toInt_lt] at h; omega
    · omega) (by show Value.int (g i.toNatClampNeg) = _; rw [hcl]) hd kk
theorem ztw {p : Nat × Nat} {w : Cond} (h : zw p w = true) : w ∈ zTB := zw_ok h
theorem zk71 : zw (5, 211) (.fieldLink "ArcadePoles$Puzzles" 71 "ArcadePoles$Puzzles" "LETTERS" "[I") = true := by decide +kernel
theorem zk74 : zw (5, 220) (.fieldLink "ArcadePoles$Puzzles" 74 "ArcadePoles$Puzzles" "SIGN_WORTH" "[I") = true := by decide +kernel
theorem zk77 : zw (5, 222) (.fieldLink "ArcadePoles$Puzzles" 77 "ArcadePoles$Puzzles" "SIGN_FIRST" "[I") = true := by decide +kernel
theorem zk80 : zw (5, 224) (.fieldLink "ArcadePoles$Puzzles" 80 "ArcadePoles$Puzzles" "SIGN_SECOND" "[I") = true := by decide +kernel
set_option maxRecDepth 100000 in
theorem zc_max {a b : Int32} : pv_CG D zCl (sxRT L) zAO zTB b0 l zM34 bud Sg H [.int a, .int b] (fun vo H2 => H2 = H ∧ vo = some (.int (if b.toInt ≤ a.toInt then a else b))) := by
  intro p e R s m args below meth cc Q ls hF hh hH hl K
  have hR := zkDe_rows zDe34
  obtain ⟨hx, hb, -, -, -⟩ := id hF.1
  have fin : ∀ (x : Int32) (ls' : Array Slot), x = (if b.toInt ≤ a.toInt then a else b) → W p l e R s m args below meth cc H [] 0 0 Q (F0 m 10 ls' [.int x]) := fun x ls' hx1 =>
    K (some (.int x)) H [] .ireturn 10 ls' hH (by rw [hh]; exact va_S.rf) ⟨rfl, by rw [hx1]⟩ (Or.inl ⟨rfl, rfl, _, rfl⟩) (pv_row hR rfl)
  refine pv_W hx hb hR 2 2 [(0, .int a), (1, .int b)] [.int b, .int a] rfl hl (fun ls hl => ?_)
  refine pv_icmp hF.1 hR .lt 7 9 rfl rfl (fun h => ?_) (fun h => ?_)
  · have h : a.toInt < b.toInt := h
    refine pv_W hx hb hR 1 10 [(0, .int a), (1, .int b)] [.int b] rfl hl (fun ls hl => fin _ _ ?_)
    rw [if_neg (by omega)]
  · have h : b.toInt ≤ a.toInt := h
    refine pv_W hx hb hR 2 10 [(0, .int a), (1, .int b)] [.int a] rfl hl (fun ls hl => fin _ _ ?_)
    rw [if_pos h]
set_option maxRecDepth 100000 in
theorem zl_letters {Y : Nat} {y : Int32} (hF : sx_Frm D zCl zAO zTB b0 zM101 bud p R s m args meth c) (hV : va_S (fun q => b0 ≤ q) s.heap H locs)
    (K : ∀ (a : Int32) (ls' : Array Slot), a.toInt = (zyk 4 Y : Int) → W p l e R s m args below meth c H locs nc ns Q (F0 m 38 ls' [.int a])) :
    ∀ (k r S : Nat) {all rest i : Int32} {ls : Array Slot}, k ≤ 4 → i.toInt = 4 - (k : Int) → rest.toInt = (r : Int) → all.toInt = (S : Int) → S + zyk k r = zyk 4 Y → lv_has ls 4 [(0, .int y), (1, .int all), (2, .int rest), (3, .int i)] → W p l e R s m args below meth c H locs nc ns Q (F0 m 10 ls []) := by
  have hR := zkDe_rows zDe101
  have hC := hF.1
  obtain ⟨hx, hb, -, -, -⟩ := id hC
  have t10 : (b8 10).toInt = 10 := by decide
  have t4 : (Int32.ofInt 4).toInt = 4 := by decide
  have t1 : (Int32.ofInt 1).toInt = 1 := by decide
  have hmax := zyk_le 4 Y
  intro k
  induction k with
  | zero =>
    intro r S all rest i ls hk hi hr hS hX hl
    refine pv_W hx hb hR 2 12 [(0, .int y), (1, .int all), (2, .int rest), (3, .int i)] [.int (Int32.ofInt 4), .int i] rfl hl (fun ls hl => ?_)
    refine pv_icmp hC hR .ge 25 37 rfl rfl (fun _ => ?_) (fun h => ?_)
    · refine pv_W hx hb hR 1 38 [(0, .int y), (1, .int all), (2, .int rest), (3, .int i)] [.int all] rfl hl (fun ls hl => ?_)
      exact K all ls (by rw [hS]; have : S = zyk 4 Y := hX; rw [this])
    · have h : i.toInt < (Int32.ofInt 4).toInt := h
      omega
  | succ k ih =>
    intro r S all rest i ls hk hi hr hS hX hl
    refine pv_W hx hb hR 2 12 [(0, .int y), (1, .int all), (2, .int rest), (3, .int i)] [.int (Int32.ofInt 4), .int i] rfl hl (fun ls hl => ?_)
    refine pv_icmp hC hR .ge 25 37 rfl rfl (fun h => ?_) (fun _ => ?_)
    · have h : (Int32.ofInt 4).toInt ≤ i.toInt := h
      omega
    refine pv_W hx hb hR 1 16 [(0, .int y), (1, .int all), (2, .int rest), (3, .int i)] [.int all] rfl hl (fun ls hl => ?_)
    refine zgets ("ArcadePoles$Puzzles", "LETTERS", zSL) (by decide +kernel) 71 (ztw zk71) (zmt (j := 101) rfl) rfl hF hV (fun ad hT => ?_)
    have hrem : (rest - rest / b8 10 * b8 10).toInt = ((r % 10 : Nat) : Int) := by rw [rem_toInt, t10, hr, Int.tmod_eq_emod_of_nonneg (by omega)]; rfl
    have hdiv : (rest / b8 10).toInt = ((r / 10 : Nat) : Int) := by rw [sx_div32 (by rw [t10]; decide), t10, hr, Int.tdiv_eq_ediv_of_nonneg (by omega)]; rfl
    refine pv_W hx hb hR 3 23 [(0, .int y), (1, .int all), (2, .int rest), (3, .int i)] [.int (rest - rest / b8 10 * b8 10), .ref ad, .int all] rfl hl (fun ls hl => ?_)
    refine ztld hC hT hV (by omega) (by rw [hrem]; show ((r % 10 : Nat) : Int) < ((10 : Nat) : Int); omega) (pv_row hR rfl) ?_
    have hn : (rest - rest / b8 10 * b8 10).toInt.toNat = r % 10 := by omega
    rw [hn]
    have hz : (Int32.ofInt (zSL.getD (r % 10) 0)).toInt = (zlc (r % 10) : Int) := (show ∀ d, d < 10 → (Int32.ofInt (zSL.getD d 0)).toInt = (zlc d : Int) by decide) _ (by omega)
    have hl4 := zlc_le (r % 10)
    have hX : S + (zlc (r % 10) + zyk k (r / 10)) = zyk 4 Y := hX
    refine pv_W hx hb hR 8 10 [(3, .int (i + Int32.ofInt 1)), (2, .int (rest / b8 10)), (1, .int (all + Int32.ofInt (zSL.getD (r % 10) 0))), (0, .int y)] [] rfl hl (fun ls hl => ?_)
    refine ih (r / 10) (S + zlc (r % 10)) (by omega) (by rw [Jvm.Kit.i32_add (by omega) (by omega), t1, hi]; omega) hdiv (by rw [Jvm.Kit.i32_add (by omega) (by omega), hz, hS]; omega) (by omega) (lv_sub hl [3, 2, 1, 0] rfl)
set_option maxRecDepth 100000 in
theorem zc_letters {Y : Nat} {y : Int32} (hb1 : 1 ≤ bud.1) (hb2 : 21 ≤ bud.2.1) (hY : y.toInt = (Y : Int)) : pv_CG D zCl (sxRT L) zAO zTB b0 l zM101 bud Sg H [.int y] (fun vo H2 => H2 = H ∧ ∃ a : Int32, vo = some (.int a) ∧ a.toInt = (zyk 4 Y : Int)) := by
  intro p e R s m args below meth cc Q ls hF hh hH hl K
  have hR := zkDe_rows zDe101
  obtain ⟨hx, hb, -, -, -⟩ := id hF.1
  have t0 : (Int32.ofInt 0).toInt = 0 := by decide
  refine pv_W hx hb hR 4 4 [(1, .int (Int32.ofInt 0)), (0, .int y)] [.int y, .int (Int32.ofInt 0)] rfl hl (fun ls hl => ?_)
  refine zcall0 (L := L) (M := zM34) (vs := [.int (Int32.ofInt 0), .int y]) (rest := []) zD5 (37, 1, 34, 2) (by decide +kernel) rfl (by decide +kernel) rfl (zmt (j := 101) rfl) rfl hF rfl (Nat.le_of_ble_eq_true rfl) (Nat.le_of_ble_eq_true rfl) hb1 hb2 (fun h => by cases h) rfl rfl (Nat.zero_le _) (Nat.zero_le _) (fun h => absurd rfl h) hH (by rw [hh]; exact va_S.rf) hl.1 zc_max (fun vo H2 locs2 k1 k2 k3 => ?_)
  obtain ⟨rfl, rfl⟩ := k3
  generalize hv : (if y.toInt ≤ (Int32.ofInt 0).toInt then Int32.ofInt 0 else y) = v
  have hv : v.toInt = (Y : Int) := by
    rw [← hv]
    split <;> omega
  refine pv_W hx hb hR 3 10 [(3, .int (Int32.ofInt 0)), (2, .int v), (1, .int (Int32.ofInt 0)), (0, .int y)] [] rfl hl (fun ls hl => ?_)
  refine zl_letters (Y := Y) hF k2 (fun a ls' ha => ?_) 4 Y 0 (Nat.le_refl _) (by rw [t0]; rfl) hv (by rw [t0]; rfl) (Nat.zero_add _) (lv_sub hl [3, 2, 1, 0] rfl)
  exact K (some (.int a)) H2 locs2 .ireturn 38 ls' k1 k2 ⟨rfl, a, rfl, ha⟩ (Or.inl ⟨rfl, rfl, _, rfl⟩) (pv_row hR rfl)
end ZY
