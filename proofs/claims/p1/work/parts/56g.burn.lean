/-! LAMPS: the class's burning -/
section ZBU
variable {FT : Nat → List Int → Int} {L : Nat} {D : va_G} {b0 : Nat} {l : Launch} {Sg : Nat → Option Nat} {bud : sx_Bu} {nc ns : Nat} {p : Program} {e : Env} {R : Room} {s : State} {m : MethodId} {args : Array Value} {below : List Frame} {meth : Method} {c : Code} {Q : State → Prop} {own : String} {Ts : List Cond} {ρ : List Value} {K1 : List sx_Ty × List sx_LF × List sx_LF × List (Nat × List sx_LF × Nat)} {FA : sx_FA} {q r len : Nat}
set_option maxRecDepth 100000 in
theorem zl_burn1 {Nn I th : Nat} {n mm j i : Int32} (hC : sx_Cx p s m args c prog_7_method_11_code 7 own Ts) (hoff : pa_off r FA) (hn : n.toInt = (Nn : Int)) (hN : Nn ≤ 500) (hlen : 500 < len ∧ len < 2 ^ 31) (hi : i.toInt = (I : Int)) (hI : 1 ≤ I ∧ I ≤ 500)
    (K : ∀ (H : Heap) (locs : List Loc) (f : Nat → Int32) (ls : Array Slot), pa_I FT D zCl (sxRT L) b0 s Sg ρ (K1, FA) q r len H locs f → (∀ x, 1 ≤ x → x ≤ Nn → (f x).toInt = ((zdv x I % 2 : Nat) : Int)) → lv_has ls 7 [(0, .ref th), (1, .int n), (2, .int mm), (3, .int j), (4, .ref q), (5, .int i)] → W p l e R s m args below meth c H locs nc ns Q (F0 m 61 ls [])) :
    ∀ (d P : Nat) {lamp : Int32} {H : Heap} {locs : List Loc} {f : Nat → Int32} {ls : Array Slot}, Nn < P + d → P % I = 0 → 1 ≤ P → P ≤ 1000 → lamp.toInt = (P : Int) → pa_I FT D zCl (sxRT L) b0 s Sg ρ (K1, FA) q r len H locs f → (∀ x, 1 ≤ x → x ≤ Nn → (f x).toInt = (((zdv x (I - 1) + if x % I = 0 ∧ x < P then 1 else 0) % 2 : Nat) : Int)) →
      lv_has ls 7 [(0, .ref th), (1, .int n), (2, .int mm), (3, .int j), (4, .ref q), (5, .int i), (6, .int lamp)] → W p l e R s m args below meth c H locs nc ns Q (F0 m 25 ls []) := by
  have hR := zkDe_rows zDe90
  obtain ⟨hx, hb, -, -, -⟩ := id hC
  have t1 : (Int32.ofInt 1).toInt = 1 := by decide
  have out : ∀ (P : Nat) {lamp : Int32} {H : Heap} {locs : List Loc} {f : Nat → Int32} {ls : Array Slot}, Nn < P → pa_I FT D zCl (sxRT L) b0 s Sg ρ (K1, FA) q r len H locs f → (∀ x, 1 ≤ x → x ≤ Nn → (f x).toInt = (((zdv x (I - 1) + if x % I = 0 ∧ x < P then 1 else 0) % 2 : Nat) : Int)) →
      lv_has ls 7 [(0, .ref th), (1, .int n), (2, .int mm), (3, .int j), (4, .ref q), (5, .int i), (6, .int lamp)] → W p l e R s m args below meth c H locs nc ns Q (F0 m 61 ls []) := fun P lamp H locs f ls hP hpa hf hl => by
    refine K H locs f ls hpa (fun x x1 x2 => ?_) (lv_sub hl [0, 1, 2, 3, 4, 5] rfl)
    rw [hf x x1 x2]
    obtain ⟨k, rfl⟩ : ∃ k, I = k + 1 := ⟨I - 1, by omega⟩
    simp only [zdv, Nat.add_sub_cancel]
    by_cases hx : x % (k + 1) = 0
    · rw [if_pos ⟨hx, by omega⟩, if_pos hx]
    · rw [if_neg (fun h => hx h.1), if_neg hx]
  intro d
  induction d with
  | zero =>
    intro P lamp H locs f ls hd hPI h1 h2 hlp hpa hf hl
    refine pv_W hx hb hR 2 28 [(0, .ref th), (1, .int n), (2, .int mm), (3, .int j), (4, .ref q), (5, .int i), (6, .int lamp)] [.int n, .int lamp] rfl hl (fun ls hl => ?_)
    refine pv_icmp hC hR .gt 33 61 rfl rfl (fun h => out P hd hpa hf hl) (fun h => ?_)
    have h : lamp.toInt ≤ n.toInt := h
    omega
  | succ d ih =>
    intro P lamp H locs f ls hd hPI h1 h2 hlp hpa hf hl
    refine pv_W hx hb hR 2 28 [(0, .ref th), (1, .int n), (2, .int mm), (3, .int j), (4, .ref q), (5, .int i), (6, .int lamp)] [.int n, .int lamp] rfl hl (fun ls hl => ?_)
    refine pv_icmp hC hR .gt 33 61 rfl rfl (fun h => ?_) (fun h => ?_)
    · have h : n.toInt < lamp.toInt := h
      exact out P (by omega) hpa hf hl
    have h : lamp.toInt ≤ n.toInt := h
    have hlt : (Int32.ofNat len).toInt = (len : Int) := Int32.toInt_ofNat_of_lt hlen.2
    refine pv_W hx hb hR 2 35 [(0, .ref th), (1, .int n), (2, .int mm), (3, .int j), (4, .ref q), (5, .int i), (6, .int lamp)] [.ref q, .int lamp] rfl hl (fun ls hl => ?_)
    refine pa_alen hC hpa.1 hpa.2.2.2 (pv_row hR rfl) ?_
    refine pv_icmp hC hR .ge 25 61 rfl rfl (fun h => ?_) (fun _ => ?_)
    · have h : (Int32.ofNat len).toInt ≤ lamp.toInt := h
      omega
    refine pv_W hx hb hR 5 48 [(0, .ref th), (1, .int n), (2, .int mm), (3, .int j), (4, .ref q), (5, .int i), (6, .int lamp)] [.int lamp, .ref q, .int (Int32.ofInt 1), .int lamp, .ref q] rfl hl (fun ls hl => ?_)
    refine pa_ald hC hpa.1 hpa.2.2.2 (by omega) (by omega) (pv_row hR rfl) ?_
    have hPn : lamp.toInt.toNat = P := by omega
    rw [hPn]
    have hfP := hf P h1 (by omega)
    rw [if_neg (by omega)] at hfP
    have hsub : (Int32.ofInt 1 - f P).toInt = 1 - (f P).toInt := by rw [Jvm.Kit.i32_sub (by omega) (by omega), t1]
    refine pv_W hx hb hR 1 50 [(0, .ref th), (1, .int n), (2, .int mm), (3, .int j), (4, .ref q), (5, .int i), (6, .int lamp)] [.int (Int32.ofInt 1 - f P), .int lamp, .ref q] rfl hl (fun ls hl => ?_)
    refine pa_ast hC hpa hoff (by omega) (by omega) (pv_row hR rfl) (fun H' locs' hpa' => ?_)
    rw [hPn] at hpa'
    refine pv_W hx hb hR 5 25 [(6, .int (lamp + i)), (0, .ref th), (1, .int n), (2, .int mm), (3, .int j), (4, .ref q), (5, .int i)] [] rfl hl (fun ls hl => ?_)
    refine ih (P + I) (lamp := lamp + i) (by omega) (by rw [Nat.add_mod_right]; exact hPI) (by omega) (by omega) (by rw [Jvm.Kit.i32_add (by omega) (by omega), hlp, hi]; omega) hpa' (fun x x1 x2 => ?_) (lv_sub hl [1, 2, 3, 4, 5, 6, 0] rfl)
    show (if x = P then Int32.ofInt 1 - f P else f x).toInt = _
    by_cases hxP : x = P
    · rw [if_pos hxP, hsub, hfP, hxP, if_pos ⟨hPI, by omega⟩]
      omega
    · rw [if_neg hxP, hf x x1 x2]
      congr 3
      by_cases hxI : x % I = 0
      · by_cases hlt2 : x < P
        · rw [if_pos ⟨hxI, hlt2⟩, if_pos ⟨hxI, by omega⟩]
        · have := zmul_gap (by omega) hxI hPI (show P < x by omega)
          rw [if_neg (by omega), if_neg (by omega)]
      · rw [if_neg (fun h => hxI h.1), if_neg (fun h => hxI h.1)]
set_option maxRecDepth 100000 in
theorem zl_burn2 {Nn Mm th : Nat} {n mm j : Int32} (hC : sx_Cx p s m args c prog_7_method_11_code 7 own Ts) (hoff : pa_off r FA) (hn : n.toInt = (Nn : Int)) (hN : Nn ≤ 500) (hlen : 500 < len ∧ len < 2 ^ 31) (hm : mm.toInt = (Mm : Int)) (hM : Mm ≤ 500)
    (K : ∀ (H : Heap) (locs : List Loc) (f : Nat → Int32) (ls : Array Slot), pa_I FT D zCl (sxRT L) b0 s Sg ρ (K1, FA) q r len H locs f → (∀ x, 1 ≤ x → x ≤ Nn → (f x).toInt = ((zdv x Mm % 2 : Nat) : Int)) → lv_has ls 7 [(0, .ref th), (1, .int n), (2, .int mm), (3, .int j), (4, .ref q)] → W p l e R s m args below meth c H locs nc ns Q (F0 m 67 ls [])) :
    ∀ (d k : Nat) {i : Int32} {H : Heap} {locs : List Loc} {f : Nat → Int32} {ls : Array Slot}, k + d = Mm → i.toInt = ((k + 1 : Nat) : Int) → pa_I FT D zCl (sxRT L) b0 s Sg ρ (K1, FA) q r len H locs f → (∀ x, 1 ≤ x → x ≤ Nn → (f x).toInt = ((zdv x k % 2 : Nat) : Int)) →
      lv_has ls 7 [(0, .ref th), (1, .int n), (2, .int mm), (3, .int j), (4, .ref q), (5, .int i)] → W p l e R s m args below meth c H locs nc ns Q (F0 m 15 ls []) := by
  have hR := zkDe_rows zDe90
  obtain ⟨hx, hb, -, -, -⟩ := id hC
  have t1 : (Int32.ofInt 1).toInt = 1 := by decide
  intro d
  induction d with
  | zero =>
    intro k i H locs f ls hk hi hpa hf hl
    refine pv_W hx hb hR 2 18 [(0, .ref th), (1, .int n), (2, .int mm), (3, .int j), (4, .ref q), (5, .int i)] [.int mm, .int i] rfl hl (fun ls hl => ?_)
    refine pv_icmp hC hR .gt 49 67 rfl rfl (fun h => ?_) (fun h => ?_)
    · obtain rfl : k = Mm := by omega
      exact K H locs f ls hpa hf (lv_sub hl [0, 1, 2, 3, 4] rfl)
    · have h : i.toInt ≤ mm.toInt := h
      omega
  | succ d ih =>
    intro k i H locs f ls hk hi hpa hf hl
    refine pv_W hx hb hR 2 18 [(0, .ref th), (1, .int n), (2, .int mm), (3, .int j), (4, .ref q), (5, .int i)] [.int mm, .int i] rfl hl (fun ls hl => ?_)
    refine pv_icmp hC hR .gt 49 67 rfl rfl (fun h => ?_) (fun h => ?_)
    · have h : mm.toInt < i.toInt := h
      omega
    refine pv_W hx hb hR 2 25 [(6, .int i), (0, .ref th), (1, .int n), (2, .int mm), (3, .int j), (4, .ref q), (5, .int i)] [] rfl hl (fun ls hl => ?_)
    refine zl_burn1 (I := k + 1) hC hoff hn hN hlen hi ⟨by omega, by omega⟩ (fun H locs f ls hpa hf hl => ?_) (Nn + 1) (k + 1) (by omega) (Nat.mod_self _) (by omega) (by omega) hi hpa (fun x x1 x2 => ?_) (lv_sub hl [1, 2, 3, 4, 5, 6, 0] rfl)
    · refine pv_W hx hb hR 2 15 [(5, .int (i + Int32.ofInt 1)), (0, .ref th), (1, .int n), (2, .int mm), (3, .int j), (4, .ref q)] [] rfl hl (fun ls hl => ?_)
      exact ih (k + 1) (i := i + Int32.ofInt 1) (by omega) (by rw [Jvm.Kit.i32_add (by omega) (by omega), t1, hi]; omega) hpa hf (lv_sub hl [1, 2, 3, 4, 5, 0] rfl)
    · rw [hf x x1 x2, if_neg (fun h => ?_)]
      · rfl
      · have := Nat.mod_eq_of_lt h.2
        omega
end ZBU
