/-! RING: who leaves, as a function on what the places hold -/
def zsh (f : Nat → Int32) (a left : Nat) : Nat → Int32 := fun p => if a ≤ p ∧ p + 1 < left then f (p + 1) else f p
def zrg (k : Nat) : Nat → (Nat → Int32) → Nat → Nat → Int32
  | 0, f, a, left => f ((a + k - 1) % left)
  | t + 1, f, a, left => zrg k t (zsh f ((a + k - 1) % left) left) ((a + k - 1) % left) (left - 1)
theorem zrg_congr (k : Nat) : ∀ (t : Nat) {f g : Nat → Int32} {a left : Nat}, t < left → (∀ p, p < left → f p = g p) → zrg k t f a left = zrg k t g a left
  | 0, f, g, a, left, h, hp => hp _ (Nat.mod_lt _ h)
  | t + 1, f, g, a, left, h, hp => by
    simp only [zrg]
    refine zrg_congr k t (by omega) (fun p hp2 => ?_)
    unfold zsh
    by_cases hc : (a + k - 1) % left ≤ p ∧ p + 1 < left
    · rw [if_pos hc, if_pos hc]; exact hp _ hc.2
    · rw [if_neg hc, if_neg hc]; exact hp _ (by omega)
theorem zrem_nat {a k left : Nat} {x y z : Int32} (hz : z.toInt = x.toInt.tmod y.toInt) (hx : x.toInt = ((a + k - 1 : Nat) : Int)) (hy : y.toInt = (left : Int)) : z.toInt = (((a + k - 1) % left : Nat) : Int) := by
  rw [hz, hx, hy, Int.tmod_eq_emod_of_nonneg (by omega)]; rfl
section ZRI
variable {FT : Nat → List Int → Int} {L : Nat} {D : va_G} {b0 : Nat} {l : Launch} {Sg : Nat → Option Nat} {bud : sx_Bu} {nc ns : Nat} {p : Program} {e : Env} {R : Room} {s : State} {m : MethodId} {args : Array Value} {below : List Frame} {meth : Method} {c : Code} {Q : State → Prop} {ρ : List Value} {K1 : List sx_Ty × List sx_LF × List sx_LF × List (Nat × List sx_LF × Nat)} {FA : sx_FA} {q r len : Nat} {own : String} {Ts : List Cond}
set_option maxRecDepth 100000 in
/-- the class lays the numbers -/
theorem zl_ring1 {Nn th : Nat} {n k i : Int32} (hC : sx_Cx p s m args c prog_7_method_7_code 7 own Ts) (hoff : pa_off r FA) (hn : n.toInt = (Nn : Int)) (hN : Nn ≤ 100) (hlen : 100 < len ∧ len < 2 ^ 31)
    (K : ∀ (H : Heap) (locs : List Loc) (f : Nat → Int32) (ls : Array Slot), pa_I FT D zCl (sxRT L) b0 s Sg ρ (K1, FA) q r len H locs f → (∀ x, x < Nn → f x = Int32.ofNat x) → lv_has ls 7 [(0, .ref th), (1, .int n), (2, .int k), (3, .int i), (4, .ref q)] → W p l e R s m args below meth c H locs nc ns Q (F0 m 36 ls [])) :
    ∀ (d t : Nat) {j : Int32} {H : Heap} {locs : List Loc} {f : Nat → Int32} {ls : Array Slot}, t + d = Nn → j.toInt = (t : Int) → pa_I FT D zCl (sxRT L) b0 s Sg ρ (K1, FA) q r len H locs f → (∀ x, x < t → f x = Int32.ofNat x) →
      lv_has ls 7 [(0, .ref th), (1, .int n), (2, .int k), (3, .int i), (4, .ref q), (5, .int j)] → W p l e R s m args below meth c H locs nc ns Q (F0 m 9 ls []) := by
  have hR := zkDe_rows zDe83
  obtain ⟨hx, hb, -, -, -⟩ := id hC
  have t1 : (Int32.ofInt 1).toInt = 1 := by decide
  have hlt : (Int32.ofNat len).toInt = (len : Int) := Int32.toInt_ofNat_of_lt hlen.2
  intro d
  induction d with
  | zero =>
    intro t j H locs f ls hd hj hpa hf hl
    refine pv_W hx hb hR 2 12 [(0, .ref th), (1, .int n), (2, .int k), (3, .int i), (4, .ref q), (5, .int j)] [.int n, .int j] rfl hl (fun ls hl => ?_)
    refine pv_icmp hC hR .ge 24 36 rfl rfl (fun h => ?_) (fun h => ?_)
    · obtain rfl : t = Nn := by omega
      exact K H locs f ls hpa hf (lv_sub hl [0, 1, 2, 3, 4] rfl)
    · have h : j.toInt < n.toInt := h
      omega
  | succ d ih =>
    intro t j H locs f ls hd hj hpa hf hl
    refine pv_W hx hb hR 2 12 [(0, .ref th), (1, .int n), (2, .int k), (3, .int i), (4, .ref q), (5, .int j)] [.int n, .int j] rfl hl (fun ls hl => ?_)
    refine pv_icmp hC hR .ge 24 36 rfl rfl (fun h => ?_) (fun h => ?_)
    · have h : n.toInt ≤ j.toInt := h
      omega
    refine pv_W hx hb hR 2 19 [(0, .ref th), (1, .int n), (2, .int k), (3, .int i), (4, .ref q), (5, .int j)] [.ref q, .int j] rfl hl (fun ls hl => ?_)
    refine pa_alen hC hpa.1 hpa.2.2.2 (pv_row hR rfl) ?_
    refine pv_icmp hC hR .ge 16 36 rfl rfl (fun h => ?_) (fun _ => ?_)
    · have h : (Int32.ofNat len).toInt ≤ j.toInt := h
      omega
    refine pv_W hx hb hR 3 29 [(0, .ref th), (1, .int n), (2, .int k), (3, .int i), (4, .ref q), (5, .int j)] [.int j, .int j, .ref q] rfl hl (fun ls hl => ?_)
    refine pa_ast hC hpa hoff (by omega) (by omega) (pv_row hR rfl) (fun H' locs' hpa' => ?_)
    have hjn : j.toInt.toNat = t := by omega
    rw [hjn] at hpa'
    refine pv_W hx hb hR 2 9 [(5, .int (j + Int32.ofInt 1)), (0, .ref th), (1, .int n), (2, .int k), (3, .int i), (4, .ref q)] [] rfl hl (fun ls hl => ?_)
    refine ih (t + 1) (by omega) (by rw [Jvm.Kit.i32_add (by omega) (by omega), t1, hj]; omega) hpa' (fun x hx => ?_) (lv_sub hl [1, 2, 3, 4, 5, 0] rfl)
    show (if x = t then j else f x) = Int32.ofNat x
    by_cases hxt : x = t
    · rw [if_pos hxt]
      refine Int32.toInt_inj.mp ?_
      rw [Int32.toInt_ofNat_of_lt (by omega), hj, hxt]
    · rw [if_neg hxt]
      exact hf x (by omega)
/-- one array's ints moved within it -/
theorem pa_acp {idx : Nat} {n sp dp : Int32} {H : Heap} {locs : List Loc} {f : Nat → Int32} {ls : Array Slot} {rest : List Value} {cl : List vw_C} {RT : Nat → Option sx_Rg} {nL pc : Nat} {cc : ByteArray} (hC : sx_Cx p s m args c cc nL own Ts) (hlink : (Cond.methodLink own idx arraycopyName).before args s = true) (hnat : (Cond.native arraycopyName).before args s = true) (hstat : (Cond.static arraycopyName).before args s = true) (hini : (Cond.initialized "java/lang/System").before args s = true)
    (hR1 : 1 ≤ R.frames) (hR2 : (rest.map fun v => v.category).sum + (nativeFrameWords "java/lang/System" "arraycopy" 5 + 11) ≤ R.locals) (hls : ls.size = nL) (hoff : pa_off r FA) (hpa : pa_I FT D cl RT b0 s Sg ρ (K1, FA) q r len H locs f) (h0 : 0 ≤ n.toInt) (h1 : 0 ≤ sp.toInt) (h2 : 0 ≤ dp.toInt) (h3 : sp.toInt + n.toInt ≤ len) (h4 : dp.toInt + n.toInt ≤ len)
    (hd : decode cc pc = .ok (.invokestatic idx, 3))
    (kk : ∀ (H' : Heap) (locs' : List Loc), pa_I FT D cl RT b0 s Sg ρ (K1, FA) q r len H' locs' (fun k => if dp.toInt.toNat ≤ k ∧ k < dp.toInt.toNat + n.toInt.toNat then f (sp.toInt.toNat + (k - dp.toInt.toNat)) else f k) → W p l e R s m args below meth c H' locs' nc ns Q (F0 m (pc + 3) ls rest)) :
    W p l e R s m args below meth c H locs nc ns Q (F0 m pc ls (.int n :: .int dp :: .ref q :: .int sp :: .ref q :: rest)) := by
  obtain ⟨hH, hG, hV, ha⟩ := hpa
  obtain ⟨cell, k4, hk, kb, hsz, k7⟩ := pa_kind hH ha
  obtain ⟨n1, n2⟩ := sx_nneg h0
  obtain ⟨n3, n4⟩ := sx_nneg h2
  obtain ⟨n5, n6⟩ := sx_nneg h1
  have e0n : n.toNatClampNeg = n.toInt.toNat := rfl
  have e0d : dp.toNatClampNeg = dp.toInt.toNat := rfl
  have e0s : sp.toNatClampNeg = sp.toInt.toNat := rfl
  obtain ⟨hx, hb, hml, hown, hts⟩ := hC
  rcases hk with ⟨z, -⟩ | ⟨-, q3, q4, q5, q6⟩
  · exact absurd z Nat.one_ne_zero
  have hty : sx_aty cl (1, len, 0, [(0, -2147483648, 2147483647)]) = .int := rfl
  rw [hty] at q3
  obtain ⟨q3a, kd, hkd, cmd, hkkd⟩ := q3
  intro T hT X
  obtain ⟨vm', X', step⟩ := X.arraycopy hx hown hlink hnat hstat hini (src := q) (dst := q) (cs := cell) (cd := cell) (srcPos := sp) (destPos := dp) (n := n) (by rw [hT]; exact k4) (by rw [hT]; exact k4) q3a q3a q4 q4 hkd hkd hkkd hkkd (by simp [refKind]) n5 n3 n1
    (by omega) (by omega)
    (fun vm₁ _ i hi => by
      have ee : cell.slots.getD (sp.toNatClampNeg + i) .null = .int (f (sp.toNatClampNeg + i)) := by rw [Array.getD_eq_getD_getElem?, k7 _ (by omega)]; rfl
      rw [ee]
      exact ⟨rfl, trivial⟩)
    (g := F0 m pc ls (.int n :: .int dp :: .ref q :: .int sp :: .ref q :: rest)) rfl (by rw [hml]; exact hls) (rest := rest) rfl (by rw [hb]; exact hd) hR1 (by show 2 * 0 + _ + _ ≤ _; omega)
  generalize hcp : copied cell cell sp dp n = cp at X' step
  have hsf := Cell.storeRun_facts cell dp.toNatClampNeg (cell.stretch sp.toNatClampNeg n.toNatClampNeg)
  have hstl : (cell.stretch sp.toNatClampNeg n.toNatClampNeg).length = n.toNatClampNeg := by simp [Cell.stretch]
  have hge := fun j => Cell.storeRun_get cell dp.toNatClampNeg (cell.stretch sp.toNatClampNeg n.toNatClampNeg) j (by rw [hstl]; omega)
  have hcpe : cp = cell.storeRun dp.toNatClampNeg (cell.stretch sp.toNatClampNeg n.toNatClampNeg) := hcp.symm
  rw [← hcpe] at hsf
  have hlt : q < H.size := (Array.getElem?_eq_some_iff.mp k4).1
  have hheap : ((T.setVm vm').setCell q cp).heap = H.setIfInBounds q cp := by rw [← hT]; rfl
  have e1 : (H.setIfInBounds q cp)[q]? = some cp := by simp [Array.getElem?_setIfInBounds, hlt]
  have e3 : ∀ x : Nat, x ≠ q → (H.setIfInBounds q cp)[x]? = H[x]? := fun x hx => by simp [Array.getElem?_setIfInBounds, Ne.symm hx]
  have e2 : (H.setIfInBounds q cp).size = H.size := by simp
  have hnew : ∀ k, k < len → cp.slots[k]? = some (.int ((fun k => if dp.toInt.toNat ≤ k ∧ k < dp.toInt.toNat + n.toInt.toNat then f (sp.toInt.toNat + (k - dp.toInt.toNat)) else f k) k)) := fun k hk => by
    show _ = some (Value.int (if dp.toInt.toNat ≤ k ∧ k < dp.toInt.toNat + n.toInt.toNat then f (sp.toInt.toNat + (k - dp.toInt.toNat)) else f k))
    rw [hcpe, hge k, hstl]
    by_cases hc : dp.toInt.toNat ≤ k ∧ k < dp.toInt.toNat + n.toInt.toNat
    · rw [if_pos (by rw [e0d, e0n]; exact hc), if_pos hc]
      unfold Cell.stretch
      rw [List.getElem?_map, List.getElem?_range (by omega)]
      show some (cell.slots.getD (sp.toNatClampNeg + (k - dp.toNatClampNeg)) .null) = _
      rw [Array.getD_eq_getD_getElem?, k7 _ (by omega)]; rfl
    · rw [if_neg (by rw [e0d, e0n]; exact hc), if_neg hc]
      exact k7 k hk
  have hkind : sx_kind D cl s (1, len, 0, [(0, -2147483648, 2147483647)]) cp := by
    refine Or.inr ⟨Nat.one_ne_zero, ?_, by rw [hsf.2.1]; exact q4, by rw [hsf.2.2.1]; exact q5, by rw [hsf.2.2.1]; exact q6.1, fun (h : (1 : Nat) = 3) => absurd h (by decide)⟩
    rw [hty]
    exact ⟨fun k => by rw [hsf.2.1]; exact q3a k, kd, by rw [hsf.1]; exact hkd, cmd, hkkd⟩
  have hH' : sx_H D cl RT b0 Sg s (H.setIfInBounds q cp) := by
    intro a ra haa
    obtain ⟨ga, y1, ⟨ca, y2, y3, y4⟩, y5⟩ := hH a ra haa
    by_cases haq : a = q
    · subst haq
      rw [ha.1] at haa
      cases haa
      rw [ha.2.1] at y1
      cases y1
      refine ⟨_, ha.2.1, ⟨cp, e1, hkind, fun j hj => ?_⟩, y5⟩
      have hj : j < len := hj
      have hgx := Int32.le_toInt (if dp.toInt.toNat ≤ j ∧ j < dp.toInt.toNat + n.toInt.toNat then f (sp.toInt.toNat + (j - dp.toInt.toNat)) else f j)
      have hlx := Int32.toInt_lt (if dp.toInt.toNat ≤ j ∧ j < dp.toInt.toNat + n.toInt.toNat then f (sp.toInt.toNat + (j - dp.toInt.toNat)) else f j)
      rw [sx_sl1 Nat.one_ne_zero]
      exact ⟨_, (0, -2147483648, 2147483647), hnew j hj, rfl, Or.inl ⟨rfl, _, rfl, by simpa using hgx, by show Int32.toInt _ ≤ 2147483647; show Int32.toInt (if dp.toInt.toNat ≤ j ∧ j < dp.toInt.toNat + n.toInt.toNat then f (sp.toInt.toNat + (j - dp.toInt.toNat)) else f j) ≤ 2147483647; omega⟩⟩
    · exact ⟨ga, y1, ⟨ca, by rw [e3 a haq]; exact y2, y3, y4⟩, y5⟩
  have hV' : ∀ zs : List (Value × Nat), va_S (fun q => b0 ≤ q) s.heap (H.setIfInBounds q cp) (locs ++ List.map (fun w => { base := q, slot := dp.toNatClampNeg + w.snd }) zs) := fun zs => by
    refine ⟨by rw [e2]; exact hV.1, fun x g1 g2 => ?_, fun x hx => ?_⟩
    · rw [e3 x (fun e => g2 (by rw [e]; exact kb))]
      exact hV.2.1 x g1 g2
    · rcases List.mem_append.mp hx with h | h
      · exact hV.2.2 x h
      · obtain ⟨i, -, hi⟩ := List.mem_map.mp h
        rw [← hi]
        exact kb
  obtain ⟨tt, a1, b1⟩ := kk (H.setIfInBounds q cp) _ ⟨hH', pa_G hG hoff ha.1 e3, hV' _, ha.1, ha.2.1, cp, e1, hnew⟩ _ hheap X'
  exact ⟨tt, step tt a1, b1⟩
end ZRI
