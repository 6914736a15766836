/-! TRAMP: tours over sets of shops -/
/-- a tour of k steps from a over all of M (in some order), b the last of them, c its cost; D u v < 0: no way -/
def zTo (D : Int → Int → Int) (a : Int) : Nat → (Int → Prop) → Int → Int → Prop
  | 0, M, b, c => (∀ s, ¬ M s) ∧ b = a ∧ c = 0
  | k + 1, M, b, c => M b ∧ ∃ u d, zTo D a k (fun s => M s ∧ s ≠ b) u d ∧ 0 ≤ D u b ∧ c = d + D u b
theorem zTo_nn {D : Int → Int → Int} {a : Int} : ∀ {k : Nat} {M : Int → Prop} {b c : Int}, zTo D a k M b c → 0 ≤ c
  | 0, _, _, _, h => by have := h.2.2; omega
  | _ + 1, _, _, _, ⟨_, u, d, h, h1, h2⟩ => by have := zTo_nn h; omega
theorem zTo_le {D : Int → Int → Int} {a : Int} (hD : ∀ u v, D u v ≤ 2000) : ∀ {k : Nat} {M : Int → Prop} {b c : Int}, zTo D a k M b c → c ≤ 2000 * (k : Int)
  | 0, _, _, _, h => by have := h.2.2; omega
  | k + 1, _, b, _, ⟨_, u, d, h, h1, h2⟩ => by
    have := zTo_le hD h
    have := hD u b
    omega
theorem zTo_cg {D : Int → Int → Int} {a : Int} {k : Nat} {M M' : Int → Prop} {b c : Int} (e : ∀ s, M s ↔ M' s) (h : zTo D a k M b c) : zTo D a k M' b c := by
  have : M = M' := funext fun s => propext (e s)
  rw [← this]
  exact h
theorem zTo_Dcg {D D' : Int → Int → Int} {a : Int} {n : Int} (ha : 0 ≤ a ∧ a < n) (e : ∀ u v : Int, (0 ≤ u ∧ u < n) → (0 ≤ v ∧ v < n) → D u v = D' u v) : ∀ {k : Nat} {M : Int → Prop} {b c : Int}, (∀ s, M s → 0 ≤ s ∧ s < n) → zTo D a k M b c → (0 ≤ b ∧ b < n) ∧ zTo D' a k M b c
  | 0, _, _, _, _, h => ⟨by have := h.2.1; omega, h⟩
  | k + 1, M, b, c, hM, ⟨h0, u, d, h, h1, h2⟩ => by
    obtain ⟨q1, q2⟩ := zTo_Dcg ha e (fun s hs => hM s hs.1) h
    have e1 := e u b q1 (hM b h0)
    exact ⟨hM b h0, h0, u, d, q2, by rw [← e1]; exact h1, by rw [← e1]; exact h2⟩
noncomputable def zon (P : Prop) : Nat := @ite Nat P (Classical.propDecidable P) 1 0
theorem zon_t {P : Prop} (h : P) : zon P = 1 := @if_pos P (Classical.propDecidable P) h Nat 1 0
theorem zon_f {P : Prop} (h : ¬ P) : zon P = 0 := @if_neg P (Classical.propDecidable P) h Nat 1 0
noncomputable def zcn (M : Int → Prop) : Nat → Nat
  | 0 => 0
  | n + 1 => zcn M n + zon (M (n : Int))
theorem zcn_s (M : Int → Prop) (n : Nat) : zcn M (n + 1) = zcn M n + zon (M (n : Int)) := rfl
theorem zcn_le (M : Int → Prop) : ∀ n, zcn M n ≤ n
  | 0 => Nat.le_refl _
  | n + 1 => by
    have := zcn_le M n
    rw [zcn_s]
    by_cases hm : M (n : Int)
    · rw [zon_t hm]; omega
    · rw [zon_f hm]; omega
theorem zcn_cg {M M' : Int → Prop} : ∀ {n : Nat}, (∀ s : Int, 0 ≤ s → s < (n : Int) → (M s ↔ M' s)) → zcn M n = zcn M' n
  | 0, _ => rfl
  | n + 1, h => by
    have e := h n (by omega) (by omega)
    rw [zcn_s, zcn_s, zcn_cg (n := n) (fun s s0 s1 => h s s0 (by omega))]
    by_cases hm : M (n : Int)
    · rw [zon_t hm, zon_t (e.mp hm)]
    · rw [zon_f hm, zon_f (fun q => hm (e.mpr q))]
theorem zcn_0 {M : Int → Prop} (h : ∀ s, ¬ M s) : ∀ n, zcn M n = 0
  | 0 => rfl
  | n + 1 => by rw [zcn_s, zcn_0 h n, zon_f (h _)]
theorem zcn_rm {M : Int → Prop} {b : Int} (hb : M b) : ∀ {n : Nat}, (0 ≤ b ∧ b < (n : Int)) → zcn (fun s => M s ∧ s ≠ b) n + 1 = zcn M n
  | 0, h => by omega
  | n + 1, h => by
    rw [zcn_s, zcn_s]
    by_cases hbn : b = (n : Int)
    · rw [zon_f (fun q : M (n : Int) ∧ (n : Int) ≠ b => q.2 hbn.symm), zon_t (show M (n : Int) by rw [← hbn]; exact hb), zcn_cg (M' := M) (fun s s0 s1 => ⟨fun q => q.1, fun q => ⟨q, by omega⟩⟩)]
    · have ih := zcn_rm hb (n := n) ⟨h.1, by omega⟩
      by_cases hm : M (n : Int)
      · rw [zon_t (show M (n : Int) ∧ (n : Int) ≠ b from ⟨hm, fun q => hbn q.symm⟩), zon_t hm]
        omega
      · rw [zon_f (fun q : M (n : Int) ∧ (n : Int) ≠ b => hm q.1), zon_f hm]
        omega
theorem zTo_k {D : Int → Int → Int} {a : Int} {n : Nat} : ∀ {k : Nat} {M : Int → Prop} {b c : Int}, (∀ s, M s → 0 ≤ s ∧ s < (n : Int)) → zTo D a k M b c → k = zcn M n
  | 0, _, _, _, _, h => (zcn_0 h.1 n).symm
  | k + 1, M, b, _, hM, ⟨h0, u, d, h, _, _⟩ => by
    have e := zTo_k (n := n) (fun s hs => hM s hs.1) h
    have e2 := zcn_rm h0 (hM b h0)
    omega
/-- v tells the cheapest tour over M that ends at b; F: there is none -/
def zTb (F : Int) (D : Int → Int → Int) (a : Int) (M : Int → Prop) (b v : Int) : Prop := v ≤ F ∧ (v = F ∨ ∃ k, zTo D a k M b v) ∧ ∀ k c, zTo D a k M b c → v ≤ c
theorem zTb_det {D D' : Int → Int → Int} {a : Int} {n : Nat} {M : Int → Prop} {b v v' F F' : Int} (hD : ∀ u v, D u v ≤ 2000) (ha : 0 ≤ a ∧ a < (n : Int)) (e : ∀ u v : Int, (0 ≤ u ∧ u < (n : Int)) → (0 ≤ v ∧ v < (n : Int)) → D u v = D' u v) (hM : ∀ s, M s → 0 ≤ s ∧ s < (n : Int)) (hn : n ≤ 12) (hF : 30000 ≤ F) (hF' : 30000 ≤ F') (h : zTb F D a M b v) (h' : zTb F' D' a M b v') : (v = F ∧ v' = F') ∨ (v = v' ∧ 0 ≤ v ∧ v < 30000) := by
  have e' : ∀ u v : Int, (0 ≤ u ∧ u < (n : Int)) → (0 ≤ v ∧ v < (n : Int)) → D' u v = D u v := fun u v hu hv => (e u v hu hv).symm
  have B : ∀ {k : Nat} {c : Int}, zTo D a k M b c → 0 ≤ c ∧ c < 30000 := fun {k c} q => by
    have h1 := zTo_le hD q
    have h2 := zTo_k hM q
    have h3 := zcn_le M n
    have h4 := zTo_nn q
    omega
  rcases h.2.1 with h1 | ⟨k, h1⟩
  · rcases h'.2.1 with g1 | ⟨j, g1⟩
    · exact Or.inl ⟨h1, g1⟩
    · have q := (zTo_Dcg ha e' hM g1).2
      have := h.2.2 j _ q
      have := B q
      omega
  · have q := (zTo_Dcg ha e hM h1).2
    have b1 := h'.2.2 k _ q
    have b2 := B h1
    rcases h'.2.1 with g1 | ⟨j, g1⟩
    · omega
    · have q2 := (zTo_Dcg ha e' hM g1).2
      have b3 := h.2.2 j _ q2
      exact Or.inr ⟨by omega, b2⟩
/-- ways by a table: -1 where there is none -/
def zDd (f : Int → Int) (u v : Int) : Int := if f (u * 12 + v) < 2000 then f (u * 12 + v) else -1
theorem zDd_le (f : Int → Int) (u v : Int) : zDd f u v ≤ 2000 := by
  unfold zDd
  split <;> omega
def zFok (F : Int) (n : Int) (f : Int → Int) : Prop := ∀ u v : Int, (0 ≤ u ∧ u < n) → (0 ≤ v ∧ v < n) → (0 ≤ f (u * 12 + v) ∧ f (u * 12 + v) < 2000) ∨ f (u * 12 + v) = F
theorem zFok_of {F : Int} {w : Int → Int → Int} {n : Nat} {f : Int → Int} (hw : ∀ a b, w a b ≤ 99) (hn : n ≤ 12) (hF : 2000 ≤ F) (h : zFwl F w n n f) : zFok F n f := fun u v hu hv => by
  have d := zFw_ds h hu hv
  obtain ⟨x, hx⟩ := zDs_ex (F := F) hw hn hF hu hv
  rcases zDs_det hw hn hF hF hu hv d d with ⟨q, -⟩ | ⟨-, q⟩
  · exact Or.inr q
  · exact Or.inl ⟨(h u v hu hv).1.1, q⟩
theorem zDd_eq {F F' : Int} {w : Int → Int → Int} {n : Nat} {f f' : Int → Int} (hw : ∀ a b, w a b ≤ 99) (hn : n ≤ 12) (hF : 2000 ≤ F) (hF' : 2000 ≤ F') (h : zFwl F w n n f) (h' : zFwl F' w n n f') : ∀ u v : Int, (0 ≤ u ∧ u < (n : Int)) → (0 ≤ v ∧ v < (n : Int)) → zDd f u v = zDd f' u v := fun u v hu hv => by
  unfold zDd
  rcases zDs_det hw hn hF hF' hu hv (zFw_ds h hu hv) (zFw_ds h' hu hv) with ⟨q1, q2⟩ | ⟨q1, q2⟩
  · rw [if_neg (by omega), if_neg (by omega)]
  · rw [if_pos q2, if_pos (by omega), q1]
/-! the class: by sets of the others -/
def zoth (a : Int) (i : Nat) : Int := if (i : Int) < a then (i : Int) else (i : Int) + 1
theorem zoth_inj {a : Int} {i j : Nat} (h : zoth a i = zoth a j) : i = j := by
  unfold zoth at h
  split at h <;> split at h <;> omega
def zMc (a : Int) (N : Nat) (S : Nat) (s : Int) : Prop := ∃ i : Nat, i < N ∧ S.testBit i = true ∧ zoth a i = s
theorem zMc_rm {a : Int} {N S l : Nat} (hl : l < N) (hb : S.testBit l = true) (s : Int) : (zMc a N S s ∧ s ≠ zoth a l) ↔ zMc a N (S ^^^ 2 ^ l) s := by
  constructor
  · rintro ⟨⟨i, i1, i2, rfl⟩, h2⟩
    refine ⟨i, i1, ?_, rfl⟩
    have hne : l ≠ i := fun he => h2 (by rw [he])
    rw [Nat.testBit_xor, i2, Nat.testBit_two_pow, decide_eq_false hne]
    rfl
  · rintro ⟨i, i1, i2, rfl⟩
    rw [Nat.testBit_xor, Nat.testBit_two_pow] at i2
    by_cases he : l = i
    · subst he
      rw [hb, decide_eq_true rfl] at i2
      cases i2
    · rw [decide_eq_false he, Bool.xor_false] at i2
      exact ⟨⟨i, i1, i2, rfl⟩, fun q => he (zoth_inj q).symm⟩
theorem zMc_0 {a : Int} {N : Nat} (s : Int) : ¬ zMc a N 0 s := fun ⟨i, _, h, _⟩ => by
  rw [Nat.zero_testBit] at h
  cases h
theorem zxor_or {S l : Nat} (hb : S.testBit l = true) : (S ^^^ 2 ^ l) ||| 2 ^ l = S := by
  apply Nat.eq_of_testBit_eq
  intro i
  rw [Nat.testBit_or, Nat.testBit_xor, Nat.testBit_two_pow]
  by_cases h : l = i
  · subst h
    rw [decide_eq_true rfl, hb]
    rfl
  · rw [decide_eq_false h, Bool.xor_false, Bool.or_false]
theorem zxor_lt {S l : Nat} (hb : S.testBit l = true) : S ^^^ 2 ^ l < S := by
  have h1 : S ^^^ 2 ^ l ≤ (S ^^^ 2 ^ l) ||| 2 ^ l := Nat.left_le_or
  rw [zxor_or hb] at h1
  have h2 : S ^^^ 2 ^ l ≠ S := fun he => by
    have h3 : (S ^^^ 2 ^ l).testBit l = false := by rw [Nat.testBit_xor, hb, Nat.testBit_two_pow, decide_eq_true rfl]; rfl
    rw [he, hb] at h3
    cases h3
  omega
/-- the class's table, sets below C told -/
def zCb (F : Int) (f T : Int → Int) (a : Int) (N C : Nat) : Prop := ∀ S l : Nat, 0 < S → S < C → l < N → S.testBit l = true → zTb F (zDd f) a (zMc a N S) (zoth a l) (T ((S : Int) * 11 + (l : Int)))
/-- one place of it: those ahead below i are through -/
def zFt (F : Int) (f T : Int → Int) (a : Int) (N S l i : Nat) (v : Int) : Prop := (0 ≤ v ∧ v ≤ F) ∧ (v = F ∨ ∃ k, zTo (zDd f) a k (zMc a N S) (zoth a l) v) ∧ ∀ j, j < i → (S ^^^ 2 ^ l).testBit j = true → v ≤ T (((S ^^^ 2 ^ l : Nat) : Int) * 11 + (j : Int)) + f (zoth a j * 12 + zoth a l)
section FT
variable {F : Int} {f T : Int → Int} {a : Int} {N S l i : Nat} {v n : Int}
theorem zoth_r (ha : 0 ≤ a) (hi : i < N) (hN : (N : Int) + 1 ≤ n) : 0 ≤ zoth a i ∧ zoth a i < n ∧ zoth a i ≠ a := by
  unfold zoth
  split <;> omega
theorem zFt_0 (hF : 0 ≤ F) : zFt F f T a N S l 0 F := ⟨⟨hF, Int.le_refl _⟩, Or.inl rfl, fun j hj => absurd hj (by omega)⟩
theorem zFt_no (hb : (S ^^^ 2 ^ l).testBit i = false) (h : zFt F f T a N S l i v) : zFt F f T a N S l (i + 1) v := ⟨h.1, h.2.1, fun j hj hbj => by
  by_cases he : j = i
  · rw [he, hb] at hbj
    cases hbj
  · exact h.2.2 j (by omega) hbj⟩
theorem zFt_y {x : Int} (hF : 2000 ≤ F) (hok : zFok F n f) (ha : 0 ≤ a) (hN : (N : Int) + 1 ≤ n) (hl : l < N) (hi : i < N) (hbl : S.testBit l = true) (hb : (S ^^^ 2 ^ l).testBit i = true) (hT : zCb F f T a N S) (h : zFt F f T a N S l i v) (hx : x = min v (T (((S ^^^ 2 ^ l : Nat) : Int) * 11 + (i : Int)) + f (zoth a i * 12 + zoth a l))) : zFt F f T a N S l (i + 1) x := by
  have hA0 : 0 < S ^^^ 2 ^ l := by
    rcases Nat.eq_zero_or_pos (S ^^^ 2 ^ l) with h0 | h0
    · rw [h0, Nat.zero_testBit] at hb
      cases hb
    · exact h0
  obtain ⟨t1, t2, t3⟩ := hT (S ^^^ 2 ^ l) i hA0 (zxor_lt hbl) hi hb
  obtain ⟨o1, o2, -⟩ := zoth_r ha hi hN
  obtain ⟨p1, p2, -⟩ := zoth_r ha hl hN
  have hf := hok (zoth a i) (zoth a l) ⟨o1, o2⟩ ⟨p1, p2⟩
  have ht0 : 0 ≤ T (((S ^^^ 2 ^ l : Nat) : Int) * 11 + (i : Int)) := by
    rcases t2 with q | ⟨k, q⟩
    · omega
    · exact zTo_nn q
  have hf0 : 0 ≤ f (zoth a i * 12 + zoth a l) := by omega
  refine ⟨⟨by have := h.1; omega, by have := h.1; omega⟩, ?_, fun j hj hbj => ?_⟩
  · by_cases hlt : T (((S ^^^ 2 ^ l : Nat) : Int) * 11 + (i : Int)) + f (zoth a i * 12 + zoth a l) < v
    · have hv := h.1
      rcases t2 with q | ⟨k, q⟩
      · omega
      · rcases hf with hf | hf
        · have hd : zDd f (zoth a i) (zoth a l) = f (zoth a i * 12 + zoth a l) := if_pos hf.2
          exact Or.inr ⟨k + 1, ⟨l, hl, hbl, rfl⟩, zoth a i, _, zTo_cg (fun s => (zMc_rm hl hbl s).symm) q, by omega, by omega⟩
        · omega
    · rw [show x = v by omega]
      exact h.2.1
  · by_cases he : j = i
    · subst he
      omega
    · have := h.2.2 j (by omega) hbj
      omega
theorem zFt_end (hok : zFok F n f) (ha : 0 ≤ a) (hN : (N : Int) + 1 ≤ n) (hl : l < N) (hbl : S.testBit l = true) (hS : S < 2 ^ N) (hA : S ^^^ 2 ^ l ≠ 0) (hT : zCb F f T a N S) (h : zFt F f T a N S l N v) : zTb F (zDd f) a (zMc a N S) (zoth a l) v := by
  refine ⟨h.1.2, h.2.1, fun k c hk => ?_⟩
  cases k with
  | zero => exact absurd ⟨l, hl, hbl, rfl⟩ (hk.1 (zoth a l))
  | succ k =>
    obtain ⟨-, u, d, h1, h2, h3⟩ := hk
    have h1 := zTo_cg (fun s => zMc_rm hl hbl s) h1
    cases k with
    | zero =>
      obtain ⟨i, hi⟩ := Nat.exists_testBit_of_ne_zero hA
      have hiN : i < N := by
        rcases Nat.lt_or_ge i N with q | q
        · exact q
        · have : (S ^^^ 2 ^ l) < 2 ^ i := Nat.lt_of_lt_of_le (Nat.lt_trans (zxor_lt hbl) hS) (Nat.pow_le_pow_right (by decide) q)
          rw [Nat.testBit_lt_two_pow this] at hi
          cases hi
      exact absurd ⟨i, hiN, hi, rfl⟩ (h1.1 (zoth a i))
    | succ k =>
      obtain ⟨⟨i, i1, i2, rfl⟩, -⟩ := id h1
      have hA0 : 0 < S ^^^ 2 ^ l := Nat.pos_of_ne_zero hA
      have e1 := (hT (S ^^^ 2 ^ l) i hA0 (zxor_lt hbl) i1 i2).2.2 _ _ h1
      have e2 := h.2.2 i i1 i2
      have e3 : zDd f (zoth a i) (zoth a l) = f (zoth a i * 12 + zoth a l) := by
        unfold zDd at h2 ⊢
        split at h2
        · rename_i q
          rw [if_pos q]
        · omega
      omega
theorem zFt_one (hF : 2000 ≤ F) (hok : zFok F n f) (ha : 0 ≤ a ∧ a < n) (hN : (N : Int) + 1 ≤ n) (hl : l < N) (hbl : S.testBit l = true) (hA : S ^^^ 2 ^ l = 0) (hv : v = f (a * 12 + zoth a l)) : zTb F (zDd f) a (zMc a N S) (zoth a l) v := by
  obtain ⟨p1, p2, -⟩ := zoth_r ha.1 hl hN
  have hf := hok a (zoth a l) ha ⟨p1, p2⟩
  have h0 : ∀ s, ¬ (zMc a N S s ∧ s ≠ zoth a l) := fun s q => by
    have := (zMc_rm hl hbl s).mp q
    rw [hA] at this
    exact zMc_0 s this
  refine ⟨by omega, ?_, fun k c hk => ?_⟩
  · rcases hf with hf | hf
    · have hd : zDd f a (zoth a l) = f (a * 12 + zoth a l) := if_pos hf.2
      exact Or.inr ⟨1, ⟨l, hl, hbl, rfl⟩, a, 0, ⟨h0, rfl, rfl⟩, by omega, by omega⟩
    · exact Or.inl (by omega)
  · cases k with
    | zero => exact absurd ⟨l, hl, hbl, rfl⟩ (hk.1 (zoth a l))
    | succ k =>
      obtain ⟨-, u, d, h1, h2, h3⟩ := hk
      cases k with
      | zero =>
        obtain ⟨-, rfl, rfl⟩ := h1
        unfold zDd at h2 h3
        split at h2
        · rename_i q
          rw [if_pos q] at h3
          omega
        · omega
      | succ k => exact absurd h1.1 (h0 u)
end FT
theorem zbit_y {x : Int} {b : Bool} (h : x = if b = true then 1 else 0) (h1 : x = 1) : b = true := by
  cases b
  · rw [if_neg (by decide)] at h
    omega
  · rfl
theorem zbit_n {x : Int} {b : Bool} (h : x = if b = true then 1 else 0) (h1 : x ≠ 1) : b = false := by
  cases b
  · rfl
  · exact absurd (h.trans (if_pos rfl)) h1
theorem zxor2 {x y : Int} (hx : 0 ≤ x) (hx1 : x ≤ 2147483647) (hy : 0 ≤ y) (hy1 : y ≤ 2147483647) : pm_xor x y = ((x.toNat ^^^ y.toNat : Nat) : Int) := by
  have h : (Int32.ofInt x ^^^ Int32.ofInt y).toBitVec.toNat = x.toNat ^^^ y.toNat := by
    rw [Int32.toBitVec_xor, BitVec.toNat_xor, zbv hx hx1, zbv hy hy1]
  have hlt : x.toNat ^^^ y.toNat < 2 ^ 31 := Nat.xor_lt_two_pow (by omega) (by omega)
  unfold pm_xor
  rw [sx_ofn (by rw [h]; omega), h]
/-- the class's table, set S's places below l as well -/
def zCl2 (F : Int) (f T : Int → Int) (a : Int) (N S l : Nat) : Prop := zCb F f T a N S ∧ ∀ k : Nat, k < l → S.testBit k = true → zTb F (zDd f) a (zMc a N S) (zoth a k) (T ((S : Int) * 11 + (k : Int)))
theorem zCl2_0 {F : Int} {f T : Int → Int} {a : Int} {N S : Nat} (h : zCb F f T a N S) : zCl2 F f T a N S 0 := ⟨h, fun k hk => absurd hk (by omega)⟩
theorem zCl2_n {F : Int} {f T : Int → Int} {a : Int} {N S l : Nat} (hb : S.testBit l = false) (h : zCl2 F f T a N S l) : zCl2 F f T a N S (l + 1) := ⟨h.1, fun k hk hbk => by
  by_cases he : k = l
  · rw [he, hb] at hbk
    cases hbk
  · exact h.2 k (by omega) hbk⟩
theorem zCl2_y {F : Int} {f T T' : Int → Int} {a x : Int} {N S l : Nat} (hN : N ≤ 11) (hl : l < N) (hx : zTb F (zDd f) a (zMc a N S) (zoth a l) x) (e : ∀ y, T' y = if y = (S : Int) * 11 + (l : Int) then x else T y) (h : zCl2 F f T a N S l) : zCl2 F f T' a N S (l + 1) := ⟨fun S' k h1 h2 h3 h4 => by
  rw [e, if_neg (by omega)]
  exact h.1 S' k h1 h2 h3 h4, fun k hk hbk => by
  rw [e]
  by_cases he : k = l
  · subst he
    rw [if_pos rfl]
    exact hx
  · rw [if_neg (by omega)]
    exact h.2 k (by omega) hbk⟩
theorem zCl2_end {F : Int} {f T : Int → Int} {a : Int} {N S : Nat} (h : zCl2 F f T a N S N) : zCb F f T a N (S + 1) := fun S' k h1 h2 h3 h4 => by
  by_cases he : S' = S
  · subst he
    exact h.2 k h3 h4
  · exact h.1 S' k h1 (by omega) h3 h4
theorem zMc_all {a s : Int} {N : Nat} (ha : 0 ≤ a ∧ a < (N : Int) + 1) : zMc a N (2 ^ N - 1) s ↔ ((0 ≤ s ∧ s < (N : Int) + 1) ∧ s ≠ a) := by
  constructor
  · rintro ⟨i, i1, i2, rfl⟩
    obtain ⟨r1, r2, r3⟩ := zoth_r (n := (N : Int) + 1) ha.1 i1 (Int.le_refl _)
    exact ⟨⟨r1, r2⟩, r3⟩
  · rintro ⟨h1, h2⟩
    by_cases h : s < a
    · exact ⟨s.toNat, by omega, by rw [Nat.testBit_two_pow_sub_one]; exact decide_eq_true (by omega), by unfold zoth; rw [if_pos (by omega)]; omega⟩
    · exact ⟨(s - 1).toNat, by omega, by rw [Nat.testBit_two_pow_sub_one]; exact decide_eq_true (by omega), by unfold zoth; rw [if_neg (by omega)]; omega⟩
theorem zshl12 : ∀ c : Nat, c < 13 → pm_shl 12 (c : Int) = 12 * ((2 ^ c : Nat) : Int) := by decide +kernel
