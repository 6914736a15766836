/-! GAME: the sum without carries, over a row with one heap lessened -/
theorem fw_i32 (z : Int32) : Int32.ofInt z.toInt = z := Int32.ofInt_toInt z
theorem fw_bx {x y : Int32} (h : ∀ i, i < 32 → x.toBitVec.getLsbD i = y.toBitVec.getLsbD i) : x = y := Int32.toBitVec_inj.mp (BitVec.eq_of_getLsbD_eq (fun i hi => h i hi))
theorem fw_x3 (a b c : Int32) : (a ^^^ b) ^^^ c = (a ^^^ c) ^^^ b := fw_bx fun i _ => by
  rw [Int32.toBitVec_xor, BitVec.getLsbD_xor, Int32.toBitVec_xor, BitVec.getLsbD_xor, Int32.toBitVec_xor, BitVec.getLsbD_xor, Int32.toBitVec_xor, BitVec.getLsbD_xor]
  cases a.toBitVec.getLsbD i <;> cases b.toBitVec.getLsbD i <;> cases c.toBitVec.getLsbD i <;> rfl
theorem fw_x2 (a b c : Int32) : ((a ^^^ b) ^^^ b) ^^^ c = a ^^^ c := fw_bx fun i _ => by
  rw [Int32.toBitVec_xor, BitVec.getLsbD_xor, Int32.toBitVec_xor, BitVec.getLsbD_xor, Int32.toBitVec_xor, BitVec.getLsbD_xor, Int32.toBitVec_xor, BitVec.getLsbD_xor]
  cases a.toBitVec.getLsbD i <;> cases b.toBitVec.getLsbD i <;> cases c.toBitVec.getLsbD i <;> rfl
theorem fw_xc {a b c : Int} : pm_xor (pm_xor a b) c = pm_xor (pm_xor a c) b := by
  unfold pm_xor
  rw [fw_i32, fw_i32, fw_x3]
theorem fw_xx {a b c : Int} : pm_xor (pm_xor (pm_xor a b) b) c = pm_xor a c := by
  unfold pm_xor
  rw [fw_i32, fw_i32, fw_x2]
theorem fw_x01 : pm_xor 0 0 = 0 ∧ pm_xor 0 1 = 1 ∧ pm_xor 1 0 = 1 ∧ pm_xor 1 1 = 0 := by decide +kernel
/-- without carries; how many are above 1; how many are 1; the most -/
def fw_x (g : Int → Int) : Nat → Int → Int → Int
  | 0, _, a => a
  | k + 1, i, a => fw_x g k (i + 1) (pm_xor a (g i))
def fw_b (g : Int → Int) : Nat → Int → Int → Int
  | 0, _, c => c
  | k + 1, i, c => fw_b g k (i + 1) (if 1 < g i then c + 1 else c)
def fw_o (g : Int → Int) : Nat → Int → Int → Int
  | 0, _, c => c
  | k + 1, i, c => fw_o g k (i + 1) (if g i = 1 then c + 1 else c)
def fw_m (g : Int → Int) : Nat → Int → Int → Int
  | 0, _, c => c
  | k + 1, i, c => fw_m g k (i + 1) (max c (g i))
section FW
variable {g : Int → Int} {n s y : Int}
theorem fw_n0 {i : Int} (h : n ≤ i) : (n - i).toNat = 0 := by omega
theorem fw_n1 {i : Int} (h : i < n) : (n - i).toNat = (n - (i + 1)).toNat + 1 := by omega
theorem fw_x_e {a X : Int} (h : n ≤ s) (hz : fw_x g (n - s).toNat s a = X) : a = X := by
  rw [fw_n0 h] at hz
  exact hz
theorem fw_x_s {a a' X : Int} (h : s < n) (hy : g s = y) (ha : a' = pm_xor a y) (hz : fw_x g (n - s).toNat s a = X) : fw_x g (n - (s + 1)).toNat (s + 1) a' = X := by
  rw [fw_n1 h] at hz
  rw [ha, ← hy]
  exact hz
theorem fw_b_e {a X : Int} (h : n ≤ s) (hz : fw_b g (n - s).toNat s a = X) : a = X := by
  rw [fw_n0 h] at hz
  exact hz
theorem fw_b_s {a a' X : Int} (h : s < n) (hy : g s = y) (ha : (1 < y ∧ a' = a + 1) ∨ (y ≤ 1 ∧ a' = a)) (hz : fw_b g (n - s).toNat s a = X) : fw_b g (n - (s + 1)).toNat (s + 1) a' = X := by
  rw [fw_n1 h] at hz
  have hz2 : fw_b g (n - (s + 1)).toNat (s + 1) (if 1 < g s then a + 1 else a) = X := hz
  rw [hy] at hz2
  rcases ha with ⟨h1, h2⟩ | ⟨h1, h2⟩
  · rw [if_pos h1] at hz2
    rw [h2]
    exact hz2
  · rw [if_neg (by omega)] at hz2
    rw [h2]
    exact hz2
theorem fw_o_e {a X : Int} (h : n ≤ s) (hz : fw_o g (n - s).toNat s a = X) : a = X := by
  rw [fw_n0 h] at hz
  exact hz
theorem fw_o_s {a a' X : Int} (h : s < n) (hy : g s = y) (ha : (y = 1 ∧ a' = a + 1) ∨ (y ≠ 1 ∧ a' = a)) (hz : fw_o g (n - s).toNat s a = X) : fw_o g (n - (s + 1)).toNat (s + 1) a' = X := by
  rw [fw_n1 h] at hz
  have hz2 : fw_o g (n - (s + 1)).toNat (s + 1) (if g s = 1 then a + 1 else a) = X := hz
  rw [hy] at hz2
  rcases ha with ⟨h1, h2⟩ | ⟨h1, h2⟩
  · rw [if_pos h1] at hz2
    rw [h2]
    exact hz2
  · rw [if_neg h1] at hz2
    rw [h2]
    exact hz2
theorem fw_m_e {a X : Int} (h : n ≤ s) (hz : fw_m g (n - s).toNat s a = X) : a = X := by
  rw [fw_n0 h] at hz
  exact hz
theorem fw_m_s {a a' X : Int} (h : s < n) (hy : g s = y) (ha : a' = max a y) (hz : fw_m g (n - s).toNat s a = X) : fw_m g (n - (s + 1)).toNat (s + 1) a' = X := by
  rw [fw_n1 h] at hz
  rw [ha, ← hy]
  exact hz
end FW
/-- one heap lessened -/
theorem fw_x_c {f g : Int → Int} : ∀ {k : Nat} {i a : Int}, (∀ j : Int, i ≤ j → j < i + k → f j = g j) → fw_x f k i a = fw_x g k i a
  | 0, _, _, _ => rfl
  | k + 1, i, a, h => by
    show fw_x f k (i + 1) (pm_xor a (f i)) = fw_x g k (i + 1) (pm_xor a (g i))
    rw [h i (by omega) (by omega)]
    exact fw_x_c (fun j j0 j1 => h j (by omega) (by omega))
theorem fw_b_c {f g : Int → Int} : ∀ {k : Nat} {i a : Int}, (∀ j : Int, i ≤ j → j < i + k → f j = g j) → fw_b f k i a = fw_b g k i a
  | 0, _, _, _ => rfl
  | k + 1, i, a, h => by
    show fw_b f k (i + 1) (if 1 < f i then a + 1 else a) = fw_b g k (i + 1) (if 1 < g i then a + 1 else a)
    rw [h i (by omega) (by omega)]
    exact fw_b_c (fun j j0 j1 => h j (by omega) (by omega))
theorem fw_x_0 {g : Int → Int} {i a : Int} : fw_x g 0 i a = a := rfl
theorem fw_x_S {g : Int → Int} {k : Nat} {i a : Int} : fw_x g (k + 1) i a = fw_x g k (i + 1) (pm_xor a (g i)) := rfl
theorem fw_x_r {g : Int → Int} {b : Int} {k : Nat} : ∀ {i a : Int}, pm_xor (fw_x g k i a) b = fw_x g k i (pm_xor a b) := by
  induction k with
  | zero =>
    intro i a
    rw [fw_x_0, fw_x_0]
  | succ k ih =>
    intro i a
    rw [fw_x_S, fw_x_S, ih, fw_xc]
theorem fw_x_u {g : Int → Int} {s v : Int} : ∀ {k : Nat} {i a : Int}, i ≤ s → s < i + k → fw_x (fa_up g s v) k i a = pm_xor (pm_xor (fw_x g k i a) (g s)) v
  | 0, _, _, h0, h1 => by omega
  | k + 1, i, a, h0, h1 => by
    show fw_x (fa_up g s v) k (i + 1) (pm_xor a (fa_up g s v i)) = pm_xor (pm_xor (fw_x g k (i + 1) (pm_xor a (g i))) (g s)) v
    by_cases h : i = s
    · rw [h, fa_up_eq, fw_x_r, fw_x_r, fw_xx]
      exact fw_x_c (fun j j0 j1 => fa_up_ne (by omega))
    · rw [fa_up_ne h]
      exact fw_x_u (by omega) (by omega)
theorem fw_b_r {g : Int → Int} {d : Int} : ∀ {k : Nat} {i a : Int}, fw_b g k i (a + d) = fw_b g k i a + d
  | 0, _, _ => rfl
  | k + 1, i, a => by
    show fw_b g k (i + 1) (if 1 < g i then a + d + 1 else a + d) = fw_b g k (i + 1) (if 1 < g i then a + 1 else a) + d
    rw [← fw_b_r]
    congr 1
    split <;> omega
theorem fw_b_u {g : Int → Int} {s v : Int} : ∀ {k : Nat} {i a : Int}, i ≤ s → s < i + k → fw_b (fa_up g s v) k i a = fw_b g k i a - (if 1 < g s then 1 else 0) + (if 1 < v then 1 else 0)
  | 0, _, _, h0, h1 => by omega
  | k + 1, i, a, h0, h1 => by
    show fw_b (fa_up g s v) k (i + 1) (if 1 < fa_up g s v i then a + 1 else a) = fw_b g k (i + 1) (if 1 < g i then a + 1 else a) - (if 1 < g s then 1 else 0) + (if 1 < v then 1 else 0)
    by_cases h : i = s
    · have e : fw_b (fa_up g s v) k (s + 1) (if 1 < v then a + 1 else a) = fw_b g k (s + 1) (if 1 < v then a + 1 else a) := fw_b_c (fun j j0 j1 => fa_up_ne (by omega))
      rw [h, fa_up_eq, e, show (if 1 < v then a + 1 else a) = a + (if 1 < v then 1 else 0) by split <;> omega, show (if 1 < g s then a + 1 else a) = a + (if 1 < g s then 1 else 0) by split <;> omega, fw_b_r, fw_b_r]
      omega
    · rw [fa_up_ne h]
      exact fw_b_u (by omega) (by omega)
/-- who is at it loses: the class's way, the reference's -/
def fw_ll (x b : Int) : Int := if b = 0 then (if x = 1 then 1 else 0) else (if x = 0 then 1 else 0)
def fw_rl (x o m : Int) : Int := if 1 < m then (if x = 0 then 1 else 0) else (if o % 2 = 1 then 1 else 0)
def fw_l (g : Int → Int) (n : Int) : Int := fw_ll (fw_x g n.toNat 0 0) (fw_b g n.toNat 0 0)
theorem fw_ll_1 {x b : Int} (h : b = 0) (h2 : x = 1) : fw_ll x b = 1 := by
  unfold fw_ll
  rw [if_pos h, if_pos h2]
theorem fw_ll_2 {x b : Int} (h : b = 0) (h2 : x ≠ 1) : fw_ll x b = 0 := by
  unfold fw_ll
  rw [if_pos h, if_neg h2]
theorem fw_ll_3 {x b : Int} (h : b ≠ 0) (h2 : x = 0) : fw_ll x b = 1 := by
  unfold fw_ll
  rw [if_neg h, if_pos h2]
theorem fw_ll_4 {x b : Int} (h : b ≠ 0) (h2 : x ≠ 0) : fw_ll x b = 0 := by
  unfold fw_ll
  rw [if_neg h, if_neg h2]
theorem fw_rl_1 {x o m : Int} (h : 1 < m) (h2 : x = 0) : fw_rl x o m = 1 := by
  unfold fw_rl
  rw [if_pos h, if_pos h2]
theorem fw_rl_2 {x o m : Int} (h : 1 < m) (h2 : x ≠ 0) : fw_rl x o m = 0 := by
  unfold fw_rl
  rw [if_pos h, if_neg h2]
theorem fw_rl_3 {x o m : Int} (h : ¬ 1 < m) (h2 : o % 2 = 1) : fw_rl x o m = 1 := by
  unfold fw_rl
  rw [if_neg h, if_pos h2]
theorem fw_rl_4 {x o m : Int} (h : ¬ 1 < m) (h2 : o % 2 ≠ 1) : fw_rl x o m = 0 := by
  unfold fw_rl
  rw [if_neg h, if_neg h2]
theorem fw_pa {a o v : Int} (h : a = o % 2) (ho : 0 ≤ o) (hv : 0 ≤ v ∧ v ≤ 1) : pm_xor a v = (if v = 1 then o + 1 else o) % 2 := by
  obtain ⟨x0, x1, x2, x3⟩ := fw_x01
  have ha : a = 0 ∨ a = 1 := by omega
  have hv2 : v = 0 ∨ v = 1 := by omega
  rcases ha with e | e <;> rcases hv2 with f | f <;> rw [e, f]
  · rw [x0, if_neg (by decide)]; omega
  · rw [x1, if_pos rfl]; omega
  · rw [x2, if_neg (by decide)]; omega
  · rw [x3, if_pos rfl]; omega
theorem fw_q {g : Int → Int} : ∀ {k : Nat} {i a o m c : Int}, (∀ j : Int, i ≤ j → j < i + k → 0 ≤ g j) → 0 ≤ c → 0 ≤ o → (1 < m ↔ c ≠ 0) → (c = 0 → a = o % 2) → (1 < fw_m g k i m ↔ fw_b g k i c ≠ 0) ∧ (fw_b g k i c = 0 → fw_x g k i a = fw_o g k i o % 2)
  | 0, _, _, _, _, _, _, _, _, h, h2 => ⟨h, h2⟩
  | k + 1, i, a, o, m, c, hg, hc, ho, h, h2 => by
    show (1 < fw_m g k (i + 1) (max m (g i)) ↔ fw_b g k (i + 1) (if 1 < g i then c + 1 else c) ≠ 0) ∧ (fw_b g k (i + 1) (if 1 < g i then c + 1 else c) = 0 → fw_x g k (i + 1) (pm_xor a (g i)) = fw_o g k (i + 1) (if g i = 1 then o + 1 else o) % 2)
    have h0 := hg i (by omega) (by omega)
    refine fw_q (fun j j0 j1 => hg j (by omega) (by omega)) (by split <;> omega) (by split <;> omega) ?_ (fun e => ?_)
    · by_cases h1 : 1 < g i
      · rw [if_pos h1]
        omega
      · rw [if_neg h1]
        omega
    · by_cases h1 : 1 < g i
      · rw [if_pos h1] at e
        omega
      · rw [if_neg h1] at e
        exact fw_pa (h2 e) ho ⟨h0, by omega⟩
theorem fw_same {g : Int → Int} {n x o m : Int} (hg : ∀ j : Int, 0 ≤ j → j < n → 0 ≤ g j) (hx : fw_x g n.toNat 0 0 = x) (ho : fw_o g n.toNat 0 0 = o) (hm : fw_m g n.toNat 0 0 = m) : fw_rl x o m = fw_l g n := by
  obtain ⟨q1, q2⟩ := fw_q (g := g) (k := n.toNat) (i := 0) (a := 0) (o := 0) (m := 0) (c := 0) (fun j j0 j1 => hg j j0 (by omega)) (Int.le_refl 0) (Int.le_refl 0) (by omega) (fun _ => rfl)
  rw [hx, ho] at q2
  rw [hm] at q1
  unfold fw_l
  rw [hx]
  obtain ⟨b, hb⟩ : ∃ b, b = fw_b g n.toNat 0 0 := ⟨_, rfl⟩
  rw [← hb] at q1 q2 ⊢
  by_cases h1 : 1 < m
  · have hb2 := q1.mp h1
    by_cases h2 : x = 0
    · rw [fw_rl_1 h1 h2, fw_ll_3 hb2 h2]
    · rw [fw_rl_2 h1 h2, fw_ll_4 hb2 h2]
  · have hb2 : b = 0 := by omega
    have q3 := q2 hb2
    by_cases h2 : o % 2 = 1
    · rw [fw_rl_3 h1 h2, fw_ll_1 hb2 (by omega)]
    · rw [fw_rl_4 h1 h2, fw_ll_2 hb2 (by omega)]
theorem fw_up {g : Int → Int} {n s v x b c : Int} (hs : 0 ≤ s ∧ s < n) (hx : fw_x g n.toNat 0 0 = x) (hb : fw_b g n.toNat 0 0 = b) (hc : c = b - (if 1 < g s then 1 else 0) + (if 1 < v then 1 else 0)) : fw_ll (pm_xor (pm_xor x (g s)) v) c = fw_l (fa_up g s v) n := by
  unfold fw_l
  rw [fw_x_u hs.1 (by omega), fw_b_u hs.1 (by omega), hx, hb, hc]
/-- how many are taken from a shop: the least so that the other one loses; 0: none -/
def fw_t (g : Int → Int) (n s : Int) : Nat → Int → Int
  | 0, _ => 0
  | k + 1, t => if fw_l (fa_up g s (g s - t)) n = 0 then fw_t g n s k (t + 1) else t
def fw_s (g : Int → Int) (n : Int) : Nat → Int → Int × Int
  | 0, _ => (-1, -1)
  | k + 1, s => if fw_t g n s (g s).toNat 1 = 0 then fw_s g n k (s + 1) else (s, fw_t g n s (g s).toNat 1)
def fw_gm (g : Int → Int) (n w : Int) : Int := if 0 ≤ w ∧ w ≤ 1 then (if w = 1 then (fw_s g n n.toNat 0).2 else (fw_s g n n.toNat 0).1) else -1
section FW2
variable {g : Int → Int} {n s : Int}
theorem fw_t_e {t U : Int} (h : g s < t) (hz : fw_t g n s (g s - t + 1).toNat t = U) : U = 0 := by
  rw [show (g s - t + 1).toNat = 0 by omega] at hz
  exact hz.symm
theorem fw_t_n {t U : Int} (h : t ≤ g s) (h2 : fw_l (fa_up g s (g s - t)) n = 0) (hz : fw_t g n s (g s - t + 1).toNat t = U) : fw_t g n s (g s - (t + 1) + 1).toNat (t + 1) = U := by
  rw [show (g s - t + 1).toNat = (g s - (t + 1) + 1).toNat + 1 by omega] at hz
  exact (if_pos h2).symm.trans hz
theorem fw_t_y {t U : Int} (h : t ≤ g s) (h2 : fw_l (fa_up g s (g s - t)) n ≠ 0) (hz : fw_t g n s (g s - t + 1).toNat t = U) : U = t := by
  rw [show (g s - t + 1).toNat = (g s - (t + 1) + 1).toNat + 1 by omega] at hz
  exact ((if_neg h2).symm.trans hz).symm
theorem fw_s_e {T : Int × Int} (h : n ≤ s) (hz : fw_s g n (n - s).toNat s = T) : T = (-1, -1) := by
  rw [fw_n0 h] at hz
  exact hz.symm
theorem fw_s_n {T : Int × Int} (h : s < n) (h2 : fw_t g n s (g s).toNat 1 = 0) (hz : fw_s g n (n - s).toNat s = T) : fw_s g n (n - (s + 1)).toNat (s + 1) = T := by
  rw [fw_n1 h] at hz
  exact (if_pos h2).symm.trans hz
theorem fw_s_y {T : Int × Int} {t : Int} (h : s < n) (ht : fw_t g n s (g s).toNat 1 = t) (h2 : t ≠ 0) (hz : fw_s g n (n - s).toNat s = T) : T = (s, t) := by
  rw [fw_n1 h] at hz
  rw [← ht] at h2 ⊢
  exact ((if_neg h2).symm.trans hz).symm
theorem fw_l_c {f g : Int → Int} {n : Int} (h : ∀ j : Int, 0 ≤ j → j < n → f j = g j) : fw_l f n = fw_l g n := by
  unfold fw_l
  rw [fw_x_c (fun j j0 j1 => h j j0 (by omega)), fw_b_c (fun j j0 j1 => h j j0 (by omega))]
theorem fw_t_c {f g : Int → Int} {n s : Int} (h : ∀ j : Int, 0 ≤ j → j < n → f j = g j) (hs : 0 ≤ s ∧ s < n) : ∀ {k : Nat} {t : Int}, fw_t f n s k t = fw_t g n s k t
  | 0, _ => rfl
  | k + 1, t => by
    have e := h s hs.1 hs.2
    have e2 : fw_l (fa_up f s (f s - t)) n = fw_l (fa_up g s (g s - t)) n := fw_l_c (fun j j0 j1 => by
      by_cases hj : j = s
      · rw [hj, fa_up_eq, fa_up_eq, e]
      · rw [fa_up_ne hj, fa_up_ne hj, h j j0 j1])
    show (if fw_l (fa_up f s (f s - t)) n = 0 then fw_t f n s k (t + 1) else t) = (if fw_l (fa_up g s (g s - t)) n = 0 then fw_t g n s k (t + 1) else t)
    rw [e2, fw_t_c h hs]
theorem fw_s_c {f g : Int → Int} {n : Int} (h : ∀ j : Int, 0 ≤ j → j < n → f j = g j) : ∀ {k : Nat} {s : Int}, 0 ≤ s → s + k ≤ n → fw_s f n k s = fw_s g n k s
  | 0, _, _, _ => rfl
  | k + 1, s, h0, h1 => by
    have e := h s h0 (by omega)
    show (if fw_t f n s (f s).toNat 1 = 0 then fw_s f n k (s + 1) else (s, fw_t f n s (f s).toNat 1)) = (if fw_t g n s (g s).toNat 1 = 0 then fw_s g n k (s + 1) else (s, fw_t g n s (g s).toNat 1))
    rw [e, fw_t_c h ⟨h0, by omega⟩, fw_s_c h (by omega) (by omega)]
theorem fw_gm_c {f g : Int → Int} {n w : Int} (hn : 0 ≤ n) (h : ∀ j : Int, 0 ≤ j → j < n → f j = g j) : fw_gm f n w = fw_gm g n w := by
  unfold fw_gm
  rw [fw_s_c h (Int.le_refl 0) (by omega)]
theorem fw_gm_o {w : Int} (h : ¬ (0 ≤ w ∧ w ≤ 1)) : fw_gm g n w = -1 := if_neg h
theorem fw_gm_1 : fw_gm g n 1 = (fw_s g n n.toNat 0).2 := rfl
theorem fw_gm_0 : fw_gm g n 0 = (fw_s g n n.toNat 0).1 := rfl
end FW2
