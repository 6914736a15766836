/-! functions that both sides are tied to; WRITTEN: the digits' sum -/
def zdig (tw : Bool) (d : Int) : Int := if tw then (if 9 < 2 * d then 2 * d - 9 else 2 * d) else (if 9 < d then d - 9 else d)
def zsum : Nat → Bool → Int → Int
  | 0, _, _ => 0
  | k + 1, tw, n => zdig tw (n.tmod 10) + zsum k (!tw) (n.tdiv 10)
theorem zdig_le {tw : Bool} {d : Int} (h0 : 0 ≤ d) (h1 : d ≤ 9) : 0 ≤ zdig tw d ∧ zdig tw d ≤ 9 := by
  unfold zdig
  cases tw
  · rw [if_neg (by decide)]
    split <;> omega
  · rw [if_pos rfl]
    split <;> omega
theorem zdec {n : Int} (h : 0 ≤ n) : 0 ≤ n.tmod 10 ∧ n.tmod 10 ≤ 9 ∧ 0 ≤ n.tdiv 10 ∧ n.tdiv 10 ≤ n ∧ n = 10 * n.tdiv 10 + n.tmod 10 := by
  rw [Int.tmod_eq_emod_of_nonneg h, Int.tdiv_eq_ediv_of_nonneg h]
  omega
theorem zsum_le : ∀ (k : Nat) (tw : Bool) (n : Int), 0 ≤ n → 0 ≤ zsum k tw n ∧ zsum k tw n ≤ 9 * (k : Int)
  | 0, tw, n, _ => by simp [zsum]
  | k + 1, tw, n, h => by
    obtain ⟨h1, h2, h3, h4, h5⟩ := zdec h
    have := zdig_le (tw := tw) h1 h2
    have := zsum_le k (!tw) (n.tdiv 10) h3
    simp only [zsum]
    omega
theorem zsum_0 : ∀ (k : Nat) (tw : Bool), zsum k tw 0 = 0
  | 0, _ => rfl
  | k + 1, tw => by
    have h := zsum_0 k (!tw)
    simp only [zsum, Int.zero_tmod, Int.zero_tdiv, h]
    cases tw <;> decide
abbrev b8 (n : Int) : Int32 := (Int8.ofInt n).toInt32
theorem zkDe_rows {code : ByteArray} {R : List (List (Nat × Instr × Nat))} (h : zkDe code R = true) : ∀ g ∈ R, ∀ q ∈ g, decode code q.1 = .ok q.2 := fun g hg q hq => of_decide_eq_true (List.all_eq_true.mp (List.all_eq_true.mp h g hg) q hq)
section ZW
variable {p : Program} {l : Launch} {e : Env} {R : Room} {s : State} {m : MethodId} {args : Array Value} {below : List Frame} {meth : Method} {c : Code} {Q : State → Prop} {H : Heap} {locs : List Loc} {nc ns : Nat} {own : String} {Ts : List Cond}
set_option maxHeartbeats 4000000 in
set_option maxRecDepth 100000 in
theorem zwc (hC : sx_Cx p s m args c prog_7_method_16_code 6 own Ts) : ∀ (k : Nat) {x0 all rest i : Int32} {ls : Array Slot}, lv_has ls 6 [(0, .int x0), (1, .int all), (2, .int rest), (3, .int i)] → k ≤ 10 → i.toInt = 10 - (k : Int) → 0 ≤ rest.toInt → 0 ≤ all.toInt → all.toInt ≤ 90 - 9 * (k : Int) →
    (∀ (a : Int32) (ls' : Array Slot), a.toInt = all.toInt + zsum k (decide (k % 2 = 0)) rest.toInt → lv_has ls' 6 [(0, .int x0), (1, .int a)] → W p l e R s m args below meth c H locs nc ns Q (F0 m 66 ls' [])) → W p l e R s m args below meth c H locs nc ns Q (F0 m 6 ls []) := by
  have hR := zkDe_rows zDe98
  obtain ⟨hx, hb, -, -, -⟩ := id hC
  have t10 : (b8 10).toInt = 10 := by decide
  have t9 : (b8 9).toInt = 9 := by decide
  intro k
  induction k with
  | zero =>
    intro x0 all rest i ls hl _ hi _ _ _ K
    refine pv_W hx hb hR 2 9 [(0, .int x0), (1, .int all), (2, .int rest), (3, .int i)] [.int (b8 10), .int i] rfl hl (fun ls hl => ?_)
    refine pv_icmp hC hR .ge 57 66 rfl rfl (fun h => ?_) (fun h => ?_)
    · exact K all ls (by simp [zsum]) (lv_sub hl [0, 1] rfl)
    · have h : i.toInt < (b8 10).toInt := h
      omega
  | succ k ih =>
    intro x0 all rest i ls hl hk hi hr ha ha2 K
    refine pv_W hx hb hR 2 9 [(0, .int x0), (1, .int all), (2, .int rest), (3, .int i)] [.int (b8 10), .int i] rfl hl (fun ls hl => ?_)
    refine pv_icmp hC hR .ge 57 66 rfl rfl (fun h => ?_) (fun _ => ?_)
    · have h : (b8 10).toInt ≤ i.toInt := h
      omega
    obtain ⟨d, hd⟩ : ∃ y : Int32, y = rest - rest / b8 10 * b8 10 := ⟨_, rfl⟩
    obtain ⟨z1, z2, z3, z4, z5⟩ := zdec hr
    have hdt : d.toInt = rest.toInt.tmod 10 := by rw [hd, rem_toInt, t10]
    have hqt : (rest / b8 10).toInt = rest.toInt.tdiv 10 := by rw [sx_div32 (by rw [t10]; decide), t10]
    refine pv_W hx hb hR 7 21 [(4, .int (rest - rest / b8 10 * b8 10)), (0, .int x0), (1, .int all), (2, .int rest), (3, .int i)] [.int (i &&& Int32.ofInt 1)] rfl hl (fun ls hl => ?_)
    rw [← hd] at hl
    have him : (i &&& Int32.ofInt 1).toInt = i.toInt % 2 := Jvm.Kit.i32_mask i (Int32.ofInt 1) (k := 1) (by decide) (by decide)
    have htw : decide (k % 2 = 0) = !decide ((k + 1) % 2 = 0) := by
      by_cases h : k % 2 = 0
      · have : ¬ (k + 1) % 2 = 0 := by omega
        simp [h, this]
      · have : (k + 1) % 2 = 0 := by omega
        simp [h, this]
    have go : ∀ (w : Int32) (ls : Array Slot), lv_has ls 6 [(3, .int (i + Int32.ofInt 1)), (2, .int (rest / b8 10)), (1, .int (all + w)), (0, .int x0)] → w.toInt = zdig (decide ((k + 1) % 2 = 0)) (rest.toInt.tmod 10) → W p l e R s m args below meth c H locs nc ns Q (F0 m 6 ls []) := fun w ls hl hw => by
      have hwb := zdig_le (tw := decide ((k + 1) % 2 = 0)) z1 z2
      have t1 : (Int32.ofInt 1).toInt = 1 := by decide
      have hai : (all + w).toInt = all.toInt + w.toInt := Jvm.Kit.i32_add (by omega) (by omega)
      have hii : (i + Int32.ofInt 1).toInt = i.toInt + 1 := by rw [Jvm.Kit.i32_add (by omega) (by omega), t1]
      refine ih (x0 := x0) (all := all + w) (rest := rest / b8 10) (i := i + Int32.ofInt 1) (lv_sub hl [3, 2, 1, 0] rfl) (by omega) (by omega) (by omega) (by omega) (by omega) (fun a ls' h1 h2 => K a ls' ?_ h2)
      rw [h1, hai, hqt, htw, hw]
      simp only [zsum]
      omega
    have tail : ∀ (v : Int32) (ls : Array Slot), lv_has ls 6 [(5, .int v), (4, .int d), (0, .int x0), (1, .int all), (2, .int rest), (3, .int i)] → 0 ≤ v.toInt → v.toInt ≤ 18 → (if 9 < v.toInt then v.toInt - 9 else v.toInt) = zdig (decide ((k + 1) % 2 = 0)) (rest.toInt.tmod 10) → W p l e R s m args below meth c H locs nc ns Q (F0 m 35 ls []) := fun v ls hl h0 h18 hv => by
      refine pv_W hx hb hR 3 40 [(5, .int v), (4, .int d), (0, .int x0), (1, .int all), (2, .int rest), (3, .int i)] [.int (b8 9), .int v, .int all] rfl hl (fun ls hl => ?_)
      refine pv_icmp hC hR .le 11 51 rfl rfl (fun h => ?_) (fun h => ?_)
      · have h : v.toInt ≤ (b8 9).toInt := h
        refine pv_W hx hb hR 9 6 [(3, .int (i + Int32.ofInt 1)), (2, .int (rest / b8 10)), (1, .int (all + v)), (5, .int v), (4, .int d), (0, .int x0)] [] rfl hl (fun ls hl => ?_)
        refine go v ls (lv_sub hl [0, 1, 2, 5] rfl) ?_
        rw [← hv, if_neg (by omega)]
      · have h : (b8 9).toInt < v.toInt := h
        refine pv_W hx hb hR 12 6 [(3, .int (i + Int32.ofInt 1)), (2, .int (rest / b8 10)), (1, .int (all + (v - b8 9))), (5, .int v), (4, .int d), (0, .int x0)] [] rfl hl (fun ls hl => ?_)
        refine go (v - b8 9) ls (lv_sub hl [0, 1, 2, 5] rfl) ?_
        rw [← hv, if_pos (by omega), Jvm.Kit.i32_sub (by omega) (by omega), t9]
    refine pv_if hC hR .ne 10 31 rfl rfl (fun h => ?_) (fun h => ?_)
    · have h : (i &&& Int32.ofInt 1).toInt ≠ 0 := h
      have hod : ¬ (k + 1) % 2 = 0 := by omega
      refine pv_W hx hb hR 2 35 [(5, .int d), (4, .int d), (0, .int x0), (1, .int all), (2, .int rest), (3, .int i)] [] rfl hl (fun ls hl => ?_)
      refine tail d ls hl (by omega) (by omega) ?_
      simp [zdig, hod, hdt]
    · have h : (i &&& Int32.ofInt 1).toInt = 0 := h
      have hev : (k + 1) % 2 = 0 := by omega
      have t2 : (Int32.ofInt 2).toInt = 2 := by decide
      have h2d : (Int32.ofInt 2 * d).toInt = 2 * d.toInt := by rw [Jvm.Kit.i32_mul (by rw [t2]; omega) (by rw [t2]; omega), t2]
      refine pv_W hx hb hR 5 35 [(5, .int (Int32.ofInt 2 * d)), (4, .int d), (0, .int x0), (1, .int all), (2, .int rest), (3, .int i)] [] rfl hl (fun ls hl => ?_)
      refine tail (Int32.ofInt 2 * d) ls hl (by omega) (by omega) ?_
      have e1 : (Int32.ofInt 2 * d).toInt = 2 * rest.toInt.tmod 10 := by rw [h2d, hdt]
      rw [e1]
      simp [zdig, hev]
set_option maxHeartbeats 4000000 in
set_option maxRecDepth 100000 in
theorem zwm (hC : sx_Cx p s m args c prog_14_method_117_code 6 own Ts) : ∀ (k : Nat) (tw : Bool) {th : Nat} {x0 sum t left : Int32} {ls : Array Slot}, lv_has ls 6 [(0, .ref th), (1, .int x0), (2, .int sum), (3, .int t), (4, .int left)] → k ≤ 10 → t.toInt = (if tw then 1 else 0) → 0 ≤ left.toInt → left.toInt < 10 ^ k → 0 ≤ sum.toInt → sum.toInt ≤ 90 - 9 * (k : Int) →
    (∀ (a : Int32) (ls' : Array Slot), a.toInt = sum.toInt + zsum k tw left.toInt → lv_has ls' 6 [(1, .int x0), (2, .int a)] → W p l e R s m args below meth c H locs nc ns Q (F0 m 69 ls' [])) → W p l e R s m args below meth c H locs nc ns Q (F0 m 7 ls []) := by
  have hR := zkDe_rows zDe191
  obtain ⟨hx, hb, -, -, -⟩ := id hC
  have t10 : (b8 10).toInt = 10 := by decide
  have t9 : (b8 9).toInt = 9 := by decide
  intro k
  induction k with
  | zero =>
    intro tw th x0 sum t left ls hl _ _ h0 h1 _ _ K
    refine pv_W hx hb hR 1 9 [(0, .ref th), (1, .int x0), (2, .int sum), (3, .int t), (4, .int left)] [.int left] rfl hl (fun ls hl => ?_)
    refine pv_if hC hR .le 60 69 rfl rfl (fun h => ?_) (fun h => ?_)
    · exact K sum ls (by simp [zsum]) (lv_sub hl [1, 2] rfl)
    · have h : 0 < left.toInt := h
      simp at h1
      omega
  | succ k ih =>
    intro tw th x0 sum t left ls hl hk ht h0 h1 hs1 hs2 K
    refine pv_W hx hb hR 1 9 [(0, .ref th), (1, .int x0), (2, .int sum), (3, .int t), (4, .int left)] [.int left] rfl hl (fun ls hl => ?_)
    refine pv_if hC hR .le 60 69 rfl rfl (fun h => ?_) (fun _ => ?_)
    · have h : left.toInt ≤ 0 := h
      have hz : left.toInt = 0 := by omega
      exact K sum ls (by rw [hz, zsum_0]; omega) (lv_sub hl [1, 2] rfl)
    obtain ⟨d, hd⟩ : ∃ y : Int32, y = left - left / b8 10 * b8 10 := ⟨_, rfl⟩
    obtain ⟨z1, z2, z3, z4, z5⟩ := zdec h0
    have hdt : d.toInt = left.toInt.tmod 10 := by rw [hd, rem_toInt, t10]
    have hqt : (left / b8 10).toInt = left.toInt.tdiv 10 := by rw [sx_div32 (by rw [t10]; decide), t10]
    refine pv_W hx hb hR 4 18 [(0, .ref th), (1, .int x0), (2, .int sum), (3, .int t), (4, .int left)] [.int t, .int (left - left / b8 10 * b8 10)] rfl hl (fun ls hl => ?_)
    rw [← hd]
    have hp : left.toInt.tdiv 10 < 10 ^ k := by
      have : (10 : Int) ^ (k + 1) = 10 ^ k * 10 := Int.pow_succ 10 k
      omega
    have go : ∀ (w t' : Int32) (ls : Array Slot), lv_has ls 6 [(4, .int (left / b8 10)), (3, .int t'), (2, .int (sum + w)), (0, .ref th), (1, .int x0)] → t'.toInt = (if (!tw) then 1 else 0) → w.toInt = zdig tw (left.toInt.tmod 10) → W p l e R s m args below meth c H locs nc ns Q (F0 m 7 ls []) := fun w t' ls hl ht' hw => by
      have hwb := zdig_le (tw := tw) z1 z2
      have hai : (sum + w).toInt = sum.toInt + w.toInt := Jvm.Kit.i32_add (by omega) (by omega)
      refine ih (!tw) (th := th) (x0 := x0) (sum := sum + w) (t := t') (left := left / b8 10) (lv_sub hl [3, 4, 2, 1, 0] rfl) (by omega) ht' (by omega) (by omega) (by omega) (by omega) (fun a ls' e1 e2 => K a ls' ?_ e2)
      rw [e1, hai, hqt, hw]
      simp only [zsum]
      omega
    have fin : ∀ (w v : Int32) (ls : Array Slot), lv_has ls 6 [(2, .int (sum + w)), (5, .int v), (0, .ref th), (1, .int x0), (3, .int t), (4, .int left)] → w.toInt = zdig tw (left.toInt.tmod 10) → W p l e R s m args below meth c H locs nc ns Q (F0 m 49 ls []) := fun w v ls hl hw => by
      refine pv_W hx hb hR 1 50 [(2, .int (sum + w)), (5, .int v), (0, .ref th), (1, .int x0), (3, .int t), (4, .int left)] [.int t] rfl hl (fun ls hl => ?_)
      refine pv_if hC hR .ne 7 57 rfl rfl (fun h => ?_) (fun h => ?_)
      · have h : t.toInt ≠ 0 := h
        refine pv_W hx hb hR 7 7 [(4, .int (left / b8 10)), (3, .int (Int32.ofInt 0)), (2, .int (sum + w)), (5, .int v), (0, .ref th), (1, .int x0)] [] rfl hl (fun ls hl => ?_)
        refine go w (Int32.ofInt 0) ls (lv_sub hl [0, 1, 2, 4, 5] rfl) ?_ hw
        cases tw
        · exact absurd (by simpa using ht) h
        · decide
      · have h : t.toInt = 0 := h
        refine pv_W hx hb hR 8 7 [(4, .int (left / b8 10)), (3, .int (Int32.ofInt 1)), (2, .int (sum + w)), (5, .int v), (0, .ref th), (1, .int x0)] [] rfl hl (fun ls hl => ?_)
        refine go w (Int32.ofInt 1) ls (lv_sub hl [0, 1, 2, 4, 5] rfl) ?_ hw
        cases tw
        · decide
        · simp at ht; rw [ht] at h; exact absurd h (by decide)
    have tail : ∀ (v : Int32) (ls : Array Slot), lv_has ls 6 [(0, .ref th), (1, .int x0), (2, .int sum), (3, .int t), (4, .int left)] → 0 ≤ v.toInt → v.toInt ≤ 18 → (if 9 < v.toInt then v.toInt - 9 else v.toInt) = zdig tw (left.toInt.tmod 10) → W p l e R s m args below meth c H locs nc ns Q (F0 m 27 ls [.int v]) := fun v ls hl h0 h18 hv => by
      refine pv_W hx hb hR 4 34 [(5, .int v), (0, .ref th), (1, .int x0), (2, .int sum), (3, .int t), (4, .int left)] [.int (b8 9), .int v, .int sum] rfl hl (fun ls hl => ?_)
      refine pv_icmp hC hR .le 11 45 rfl rfl (fun h => ?_) (fun h => ?_)
      · have h : v.toInt ≤ (b8 9).toInt := h
        refine pv_W hx hb hR 3 49 [(2, .int (sum + v)), (5, .int v), (0, .ref th), (1, .int x0), (3, .int t), (4, .int left)] [] rfl hl (fun ls hl => ?_)
        refine fin v v ls hl ?_
        rw [← hv, if_neg (by omega)]
      · have h : (b8 9).toInt < v.toInt := h
        refine pv_W hx hb hR 6 49 [(2, .int (sum + (v - b8 9))), (5, .int v), (0, .ref th), (1, .int x0), (3, .int t), (4, .int left)] [] rfl hl (fun ls hl => ?_)
        refine fin (v - b8 9) v ls hl ?_
        rw [← hv, if_pos (by omega), Jvm.Kit.i32_sub (by omega) (by omega), t9]
    refine pv_if hC hR .eq 7 25 rfl rfl (fun h => ?_) (fun h => ?_)
    · have h : t.toInt = 0 := h
      have htw : tw = false := by
        cases tw
        · rfl
        · simp at ht; rw [ht] at h; exact absurd h (by decide)
      have t1 : (Int32.ofInt 1).toInt = 1 := by decide
      have e1 : (d * Int32.ofInt 1).toInt = left.toInt.tmod 10 := by rw [Jvm.Kit.i32_mul (by rw [t1]; omega) (by rw [t1]; omega), t1, hdt, Int.mul_one]
      refine pv_W hx hb hR 2 27 [(0, .ref th), (1, .int x0), (2, .int sum), (3, .int t), (4, .int left)] [.int (d * Int32.ofInt 1)] rfl hl (fun ls hl => ?_)
      refine tail _ ls hl (by omega) (by omega) ?_
      rw [e1, htw]
      simp [zdig]
    · have h : t.toInt ≠ 0 := h
      have htw : tw = true := by
        cases tw
        · exact absurd (by simpa using ht) h
        · rfl
      have t2 : (Int32.ofInt 2).toInt = 2 := by decide
      have e1 : (d * Int32.ofInt 2).toInt = 2 * left.toInt.tmod 10 := by rw [Jvm.Kit.i32_mul (by rw [t2]; omega) (by rw [t2]; omega), t2, hdt, Int.mul_comm]
      refine pv_W hx hb hR 3 27 [(0, .ref th), (1, .int x0), (2, .int sum), (3, .int t), (4, .int left)] [.int (d * Int32.ofInt 2)] rfl hl (fun ls hl => ?_)
      refine tail _ ls hl (by omega) (by omega) ?_
      rw [e1, htw]
      simp [zdig]
end ZW
