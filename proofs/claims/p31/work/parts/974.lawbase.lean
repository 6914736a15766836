/-! the law's body: reading the script, a call whose answer is dropped -/
/-- what stays as it is throughout the law's loop -/
def zLC (D : va_G) (ST : List (String × String × String × Nat)) (b0 : sx_B) (l : Launch) (B0 : Nat → Prop) (Sg : Nat → Option Nat) (p : Program) (R : Room) (s : State) (m : MethodId) (args : Array Value) (meth : Method) (c : Code) (b ax am L : Nat) (xs : Nat → Int32) (nc ns : Nat) : Prop :=
  zKK ST ∧ sx_Wd zNR zRT2 B0 Sg ∧ (∀ a, s.heap.size ≤ a → B0 a) ∧ (∀ a, B0 a → b0.1 a) ∧ (∀ (j : Nat) (ct : sx_Ct), sx_at2 zCT2 j = some ct → zCK D ST B0 l Sg ct) ∧ sx_Frm D zCl (zAS ST) zTB b0 zM0 (2048, 84000, 600000, 7302249) p R s m args meth c ∧ va_T .int b L (fun j => .int (xs j)) b0.1 s s.heap ∧ L ≤ 3072 ∧ Sg ax = some 1 ∧ Sg am = some 205 ∧ nc ≤ 600000 ∧ ns ≤ 7302249
/-- the locals -/
abbrev zlv (b ax am : Nat) (i : Int32) : List (Nat × Value) := [(0, .ref b), (1, .ref ax), (2, .ref am), (3, .int i)]
/-- the world between calls -/
def zLX (D : va_G) (b0 : sx_B) (B0 : Nat → Prop) (Sg : Nat → Option Nat) (s : State) (H : Heap) (locs : List Loc) : Prop := ∃ μ, zLS D B0 Sg s μ H ∧ va_S b0.1 s.heap H locs ∧ μ 33 1 = μ 35 1 ∧ μ 76 1 = μ 78 1
section LB
variable {D : va_G} {ST : List (String × String × String × Nat)} {b0 : sx_B} {l : Launch} {B0 : Nat → Prop} {Sg : Nat → Option Nat} {p : Program} {e : Env} {R : Room} {s : State} {m : MethodId} {args : Array Value} {below : List Frame} {meth : Method} {c : Code} {b ax am L : Nat} {xs : Nat → Int32} {nc ns : Nat} {Q : State → Prop} {H : Heap} {locs : List Loc} {ls : Array Slot} {pc : Nat} {i : Int32}
theorem zl_arg (C : zLC D ST b0 l B0 Sg p R s m args meth c b ax am L xs nc ns) {k : Nat} {st : List Value} (hX : zLX D b0 B0 Sg s H locs) (hl : lv_has ls 4 (zlv b ax am i)) (hi : 0 ≤ i.toInt ∧ i.toInt + k < L) (hk : (Int32.ofInt k).toInt = k) (hr : pv_run zM0.2.1 4 4 pc (zlv b ax am i) st = some (pc + 4, zlv b ax am i, .int (i + Int32.ofInt k) :: .ref b :: st)) (hd : sx_row zM0.2.1 (pc + 4) = some (pc + 4, .iaload, 1))
    (kk : ∀ ls', lv_has ls' 4 (zlv b ax am i) → W p l e R s m args below meth c H locs nc ns Q (F0 m (pc + 5) ls' (.int (xs (i.toInt.toNat + k)) :: st))) : W p l e R s m args below meth c H locs nc ns Q (F0 m pc ls st) := by
  obtain ⟨-, -, -, -, -, hF, hT, hL, -, -, -, -⟩ := C
  obtain ⟨μ, -, hV, -, -⟩ := hX
  obtain ⟨hx, hb, -, -, -⟩ := id hF.1
  have hR := zMk0.1
  have e1 : (i + Int32.ofInt k).toInt = i.toInt + k := by
    rw [Jvm.Kit.i32_add (by rw [hk]; omega) (by rw [hk]; omega), hk]
  refine pv_W hx hb hR 4 (pc + 4) (zlv b ax am i) (.int (i + Int32.ofInt k) :: .ref b :: st) hr hl (fun ls hl => ?_)
  refine va_ti hx hb hT hV (jin (by omega) (by omega)) (v := .int (xs (i.toInt.toNat + k))) ?_ (pv_row hR hd) (kk ls hl)
  show Value.int (xs (i + Int32.ofInt k).toNatClampNeg) = _
  have : (i + Int32.ofInt k).toNatClampNeg = i.toInt.toNat + k := by
    have : (i + Int32.ofInt k).toNatClampNeg = (i + Int32.ofInt k).toInt.toNat := rfl
    omega
  rw [this]
/-- an int among the arguments of a contract -/
theorem zai1 {x : Int32} {as : List pm_V} {ts : List sx_Ty} (h : pm_as as ts) : pm_as ((0, x.toInt) :: as) ((0, -2147483648, 2147483647) :: ts) := ⟨rfl, fun _ => ⟨Int32.le_toInt x, by have := Int32.toInt_lt x; show x.toInt ≤ (2147483647 : Int); omega⟩, fun h => (by cases h), h⟩
theorem zar1 {r : Nat} {as : List pm_V} {ts : List sx_Ty} (h : pm_as as ts) : pm_as ((2, (r : Int)) :: as) ((2, (r : Int), 0) :: ts) := ⟨rfl, fun h => (by cases h), fun _ => rfl, h⟩
theorem zsi1 {x : Int32} {as : List pm_V} {vs : List Value} (h : pm_S Sg as vs) : pm_S Sg ((0, x.toInt) :: as) (.int x :: vs) := ⟨Or.inl ⟨rfl, x, rfl, rfl⟩, h⟩
theorem zsr1 {a r : Nat} {as : List pm_V} {vs : List Value} (ha : Sg a = some r) (h : pm_S Sg as vs) : pm_S Sg ((2, (r : Int)) :: as) (.ref a :: vs) := ⟨Or.inr (Or.inr (Or.inl ⟨rfl, a, rfl, ha⟩)), h⟩
/-- a call by contract whose answer, an int, is dropped -/
theorem zl_m (C : zLC D ST b0 l B0 Sg p R s m args meth c b ax am L xs nc ns) (j : Nat) {ct : sx_Ct} (q : sx_Ml) (M' : sx_Me) (as : List pm_V) {vs : List Value} (hX : zLX D b0 B0 Sg s H locs) (hj : sx_at2 zCT2 j = some ct) (hq : sx_fnd (fun x => Nat.beq x.1 q.1) zD13.2.2.1 = some q) (hq1 : q.2.2.1 = ct.1) (hrow : sx_row zM0.2.1 pc = some (pc, sx_inv q.2.1 q.1, 3)) (hM' : sx_at2 zMT q.2.2.1 = some M') (hc : pm_cok zRT2 q M' as [] = true)
    (hb : ct.2.2.2.1 + 1 ≤ 2048 ∧ 19 + M'.1.2.2.1 + ct.2.2.2.2.1 ≤ 84000) (ht : ct.2.1.all (fun t => Nat.beq t.1 0 || Nat.beq t.1 2) = true) (hres : ∃ lo hi, ct.2.2.1 = some (0, lo, hi)) (gv : pm_S Sg as vs) (ha : pm_as as ct.2.1) (hls : ls.size = 4) (hn : (zfrc ct.2.2.2.2.2 33 1 && zfrc ct.2.2.2.2.2 35 1 && zfrc ct.2.2.2.2.2 76 1 && zfrc ct.2.2.2.2.2 78 1) = true) (hp : sx_row zM0.2.1 (pc + 3) = some (pc + 3, .pop, 1))
    (kk : ∀ (H2 : Heap) (locs2 : List Loc), zLX D b0 B0 Sg s H2 locs2 → W p l e R s m args below meth c H2 locs2 nc ns Q (F0 m (pc + 4) ls [])) :
    W p l e R s m args below meth c H locs nc ns Q (F0 m pc ls vs.reverse) := by
  obtain ⟨hK, hw, hB, hB0, hCt, hF, hT, hL, hax, ham, hnc, hns⟩ := C
  obtain ⟨μ, hS, hV, he, he2⟩ := hX
  obtain ⟨hx, hb', -, -, -⟩ := id hF.1
  have := zl_ct (e := e) (below := below) (Q := Q) (rest := []) hK hw hB hB0 (hCt j ct hj) q M' as hF hq hq1 hrow hM' hc hb ht gv ha (Nat.zero_le _) hnc hns hls hS hV (fun vo μ' H2 locs2 hr hS2 hV2 hfr => ?_)
  · rw [List.append_nil] at this
    exact this
  · obtain ⟨lo, hi, hres⟩ := hres
    rw [hres] at hr
    obtain ⟨v, rfl, hv⟩ := hr
    obtain ⟨y, rfl⟩ : ∃ y : Int32, v = .int y := by
      rcases hv with ⟨-, y, rfl, -⟩ | ⟨k1, -⟩ | ⟨k1, -⟩ | ⟨k1, -⟩
      · exact ⟨y, rfl⟩
      · cases k1
      · cases k1
      · cases k1
    refine lv_pop hx hb' (pv_row zMk0.1 hp) rfl ?_
    obtain ⟨n1, n2, n3, n4⟩ := zNs_fr hfr hn
    exact kk H2 locs2 ⟨μ', hS2, hV2, by rw [n1, n2]; exact he, by rw [n3, n4]; exact he2⟩
end LB
