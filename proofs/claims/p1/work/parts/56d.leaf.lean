/-! small methods by hand: what they hand over -/
theorem zxor {x y : Int32} (hy : 0 ≤ y.toInt) : (x ^^^ y).toInt < 0 ↔ x.toInt < 0 := by
  have h1 : (x ^^^ y).toBitVec.msb = (x.toBitVec.msb ^^ y.toBitVec.msb) := by rw [Int32.toBitVec_xor, BitVec.msb_xor]
  rw [BitVec.msb_eq_toInt, BitVec.msb_eq_toInt, BitVec.msb_eq_toInt] at h1
  have e1 : (x ^^^ y).toBitVec.toInt = (x ^^^ y).toInt := rfl
  have e2 : x.toBitVec.toInt = x.toInt := rfl
  have e3 : y.toBitVec.toInt = y.toInt := rfl
  rw [e1, e2, e3, decide_eq_false (show ¬ y.toInt < 0 by omega), Bool.xor_false] at h1
  exact decide_eq_decide.mp h1
theorem ztmod_np {a : Int} (b : Int) (h : a ≤ 0) : a.tmod b ≤ 0 := by
  have h1 := Int.tmod_nonneg b (a := -a) (by omega)
  rw [Int.neg_tmod] at h1
  omega
theorem zirem {p : Program} {l : Launch} {e : Env} {R : Room} {s : State} {m : MethodId} {args : Array Value} {below : List Frame} {meth : Method} {c : Code} {Q : State → Prop} {H : Heap} {locs : List Loc} {nc ns pc nL : Nat} {cc : ByteArray} {ls : Array Slot} {own : String} {Ts : List Cond} {RW : List (List (Nat × Instr × Nat))} {x y : Int32} {rest : List Value}
    (hC : sx_Cx p s m args c cc nL own Ts) (hR : ∀ g ∈ RW, ∀ q ∈ g, decode cc q.1 = .ok q.2) (h : sx_row RW pc = some (pc, .irem, 1)) (hy : y.toInt ≠ 0) (kk : ∀ z : Int32, z.toInt = x.toInt.tmod y.toInt → W p l e R s m args below meth c H locs nc ns Q (F0 m (pc + 1) ls (.int z :: rest))) : W p l e R s m args below meth c H locs nc ns Q (F0 m pc ls (.int y :: .int x :: rest)) :=
  lv_irem hC.1 hC.2.1 (pv_row hR h) (fun h => hy (by rw [h]; decide)) (kk _ (rem_toInt x y))
section ZL
variable {L : Nat} {D : va_G} {b0 : Nat} {l : Launch} {Sg : Nat → Option Nat} {bud : sx_Bu} {H : Heap}
set_option maxRecDepth 100000 in
theorem zc_within {a b c : Int32} : pv_CG D zCl (sxRT L) zAO zTB b0 l zM16 bud Sg H [.int a, .int b, .int c] (fun vo H2 => H2 = H ∧ vo = some (.int (if b.toInt ≤ a.toInt ∧ a.toInt ≤ c.toInt then 1 else 0))) := by
  intro p e R s m args below meth cc Q ls hF hh hH hl K
  have hR := zkDe_rows zDe16
  obtain ⟨hx, hb, -, -, -⟩ := id hF.1
  have fin : ∀ (x : Int32) (ls' : Array Slot), x = (if b.toInt ≤ a.toInt ∧ a.toInt ≤ c.toInt then 1 else 0) → W p l e R s m args below meth cc H [] 0 0 Q (F0 m 15 ls' [.int x]) := fun x ls' hx1 => by
    refine K (some (.int x)) H [] .ireturn 15 ls' hH (by rw [hh]; exact va_S.rf) ⟨rfl, by rw [hx1]⟩ (Or.inr (Or.inl ⟨rfl, rfl, ?_⟩)) (pv_row hR rfl)
    rw [hx1]
    by_cases hc : b.toInt ≤ a.toInt ∧ a.toInt ≤ c.toInt
    · rw [if_pos hc]; exact Or.inr rfl
    · rw [if_neg hc]; exact Or.inl rfl
  refine pv_W hx hb hR 2 2 [(0, .int a), (1, .int b), (2, .int c)] [.int b, .int a] rfl hl (fun ls hl => ?_)
  refine pv_icmp hF.1 hR .lt 12 14 rfl rfl (fun h => ?_) (fun h => ?_)
  · have h : a.toInt < b.toInt := h
    refine pv_W hx hb hR 1 15 [(0, .int a), (1, .int b), (2, .int c)] [.int (Int32.ofInt 0)] rfl hl (fun ls hl => fin _ _ ?_)
    rw [if_neg (by omega)]; rfl
  · have h : b.toInt ≤ a.toInt := h
    refine pv_W hx hb hR 2 7 [(0, .int a), (1, .int b), (2, .int c)] [.int c, .int a] rfl hl (fun ls hl => ?_)
    refine pv_icmp hF.1 hR .gt 7 14 rfl rfl (fun h2 => ?_) (fun h2 => ?_)
    · have h2 : c.toInt < a.toInt := h2
      refine pv_W hx hb hR 1 15 [(0, .int a), (1, .int b), (2, .int c)] [.int (Int32.ofInt 0)] rfl hl (fun ls hl => fin _ _ ?_)
      rw [if_neg (by omega)]; rfl
    · have h2 : a.toInt ≤ c.toInt := h2
      refine pv_W hx hb hR 2 15 [(0, .int a), (1, .int b), (2, .int c)] [.int (Int32.ofInt 1)] rfl hl (fun ls hl => fin _ _ ?_)
      rw [if_pos ⟨h, h2⟩]; rfl
set_option maxRecDepth 100000 in
theorem zc_min {a b : Int32} : pv_CG D zCl (sxRT L) zAO zTB b0 l zM30 bud Sg H [.int a, .int b] (fun vo H2 => H2 = H ∧ vo = some (.int (if a.toInt ≤ b.toInt then a else b))) := by
  intro p e R s m args below meth cc Q ls hF hh hH hl K
  have hR := zkDe_rows zDe30
  obtain ⟨hx, hb, -, -, -⟩ := id hF.1
  have fin : ∀ (x : Int32) (ls' : Array Slot), x = (if a.toInt ≤ b.toInt then a else b) → W p l e R s m args below meth cc H [] 0 0 Q (F0 m 10 ls' [.int x]) := fun x ls' hx1 =>
    K (some (.int x)) H [] .ireturn 10 ls' hH (by rw [hh]; exact va_S.rf) ⟨rfl, by rw [hx1]⟩ (Or.inl ⟨rfl, rfl, _, rfl⟩) (pv_row hR rfl)
  refine pv_W hx hb hR 2 2 [(0, .int a), (1, .int b)] [.int b, .int a] rfl hl (fun ls hl => ?_)
  refine pv_icmp hF.1 hR .gt 7 9 rfl rfl (fun h => ?_) (fun h => ?_)
  · have h : b.toInt < a.toInt := h
    refine pv_W hx hb hR 1 10 [(0, .int a), (1, .int b)] [.int b] rfl hl (fun ls hl => fin _ _ ?_)
    rw [if_neg (by omega)]
  · have h : a.toInt ≤ b.toInt := h
    refine pv_W hx hb hR 2 10 [(0, .int a), (1, .int b)] [.int a] rfl hl (fun ls hl => fin _ _ ?_)
    rw [if_pos h]
set_option maxRecDepth 100000 in
theorem zc_fmod {a b : Int32} (h0 : 0 < b.toInt) : pv_CG D zCl (sxRT L) zAO zTB b0 l zM99 bud Sg H [.int a, .int b] (fun vo H2 => H2 = H ∧ ∃ x : Int32, vo = some (.int x) ∧ x.toInt = a.toInt % b.toInt) := by
  intro p e R s m args below meth cc Q ls hF hh hH hl K
  have hR := zkDe_rows zDe99
  obtain ⟨hx, hb, -, -, -⟩ := id hF.1
  refine pv_W hx hb hR 2 2 [(0, .int a), (1, .int b)] [.int b, .int a] rfl hl (fun ls hl => ?_)
  refine zirem hF.1 hR rfl (by omega) (fun z hz => ?_)
  have hlt := Int.tmod_lt_of_pos a.toInt h0
  have hem : a.toInt % b.toInt = if 0 ≤ z.toInt then z.toInt else z.toInt + b.toInt := by
    rw [hz, Int.emod_eq_tmod]
    by_cases ha : 0 ≤ a.toInt
    · have := Int.tmod_nonneg b.toInt ha
      rw [if_pos (by omega), if_pos this]; omega
    · by_cases hd : b.toInt ∣ a.toInt
      · have := Int.tmod_eq_zero_of_dvd hd
        rw [if_pos (Or.inr hd), if_pos (by omega)]; omega
      · have h1 : a.toInt.tmod b.toInt ≠ 0 := fun h => hd (Int.dvd_of_tmod_eq_zero h)
        have h2 : a.toInt.tmod b.toInt ≤ 0 := ztmod_np b.toInt (by omega)
        rw [if_neg (by omega), if_neg (by omega)]; omega
  have hsg : 0 ≤ a.toInt → 0 ≤ z.toInt := fun h => by rw [hz]; exact Int.tmod_nonneg b.toInt h
  have hsn : a.toInt < 0 → z.toInt ≤ 0 := fun h => by rw [hz]; exact ztmod_np b.toInt (by omega)
  have hgt : -b.toInt < z.toInt := by
    by_cases h : 0 ≤ z.toInt
    · omega
    · have h1 := Int.emod_nonneg a.toInt (b := b.toInt) (by omega)
      have h2 : a.toInt % b.toInt ≠ 0 := fun h3 => by
        have h4 := Int.tmod_eq_zero_of_dvd (Int.dvd_of_emod_eq_zero h3)
        omega
      rw [hem, if_neg h] at h1 h2
      omega
  have fin18 : ∀ (ls : Array Slot), lv_has ls 3 [(2, .int z), (0, .int a), (1, .int b)] → z.toInt = a.toInt % b.toInt → W p l e R s m args below meth cc H [] 0 0 Q (F0 m 18 ls []) := fun ls hl hz2 => by
    refine pv_W hx hb hR 1 19 [(2, .int z), (0, .int a), (1, .int b)] [.int z] rfl hl (fun ls hl => ?_)
    exact K (some (.int z)) H [] .ireturn 19 ls hH (by rw [hh]; exact va_S.rf) ⟨rfl, z, rfl, hz2⟩ (Or.inl ⟨rfl, rfl, _, rfl⟩) (pv_row hR rfl)
  refine pv_W hx hb hR 4 7 [(2, .int z), (0, .int a), (1, .int b)] [.int (a ^^^ b)] rfl hl (fun ls hl => ?_)
  have hxo := zxor (x := a) (y := b) (by omega)
  refine pv_if hF.1 hR .ge 11 18 rfl rfl (fun h => ?_) (fun h => ?_)
  · have h : 0 ≤ (a ^^^ b).toInt := h
    have := hsg (by omega)
    exact fin18 ls hl (by rw [hem, if_pos this])
  · have h : (a ^^^ b).toInt < 0 := h
    have h3 := hsn (by omega)
    refine pv_W hx hb hR 1 11 [(2, .int z), (0, .int a), (1, .int b)] [.int z] rfl hl (fun ls hl => ?_)
    refine pv_if hF.1 hR .eq 7 18 rfl rfl (fun h2 => ?_) (fun h2 => ?_)
    · have h2 : z.toInt = 0 := h2
      exact fin18 ls hl (by rw [hem, if_pos (by omega)])
    · have h2 : z.toInt ≠ 0 := h2
      refine pv_W hx hb hR 3 17 [(2, .int z), (0, .int a), (1, .int b)] [.int (z + b)] rfl hl (fun ls hl => ?_)
      have hb2 := Int32.toInt_lt b
      have hzb : (z + b).toInt = z.toInt + b.toInt := Jvm.Kit.i32_add (by omega) (by omega)
      exact K (some (.int (z + b))) H [] .ireturn 17 ls hH (by rw [hh]; exact va_S.rf) ⟨rfl, z + b, rfl, by rw [hzb, hem, if_neg (by omega)]⟩ (Or.inl ⟨rfl, rfl, _, rfl⟩) (pv_row hR rfl)
end ZL
