/-! threads: what a set's threads are; the least of all sets is what joining the two shortest costs -/
def zhL (w : Nat → Int) (n s : Nat) : List Int := ((List.range n).filter (fun e => s.testBit e)).map w
theorem zhL_sum {w : Nat → Int} {s : Nat} : ∀ n, zhs (zhL w n s) = zhw w n s
  | 0 => rfl
  | n + 1 => by
    unfold zhL
    rw [List.range_succ, List.filter_append, List.map_append, zhs_app]
    show zhs (zhL w n s) + _ = zhw w n s + if s.testBit n = true then w n else 0
    rw [zhL_sum n]
    cases h : s.testBit n
    · simp [h, zhs]
    · simp [h, zhs]
theorem zhL_or {w : Nat → Int} {n a b : Nat} (h : a &&& b = 0) : (zhL w n (a ||| b)).Perm (zhL w n a ++ zhL w n b) := by
  unfold zhL
  rw [← List.map_append]
  refine List.Perm.map w ?_
  have e1 : (List.range n).filter (fun e => a.testBit e) = ((List.range n).filter (fun e => (a ||| b).testBit e)).filter (fun e => a.testBit e) := by
    rw [List.filter_filter]
    refine List.filter_congr (fun e _ => ?_)
    rw [Nat.testBit_or]
    cases a.testBit e <;> cases b.testBit e <;> rfl
  have e2 : (List.range n).filter (fun e => b.testBit e) = ((List.range n).filter (fun e => (a ||| b).testBit e)).filter (fun e => !(a.testBit e)) := by
    rw [List.filter_filter]
    refine List.filter_congr (fun e _ => ?_)
    have := zh_bits h e
    rw [Nat.testBit_or]
    cases ha : a.testBit e <;> cases hb : b.testBit e
    · rfl
    · rfl
    · rfl
    · exact absurd ⟨ha, hb⟩ this
  rw [e1, e2]
  exact (List.filter_append_perm _ _).symm
theorem zh_one {e : Nat} : ∀ {n : Nat}, (e < n → (List.range n).filter (fun i => (2 ^ e).testBit i) = [e]) ∧ (n ≤ e → (List.range n).filter (fun i => (2 ^ e).testBit i) = [])
  | 0 => ⟨fun h => absurd h (Nat.not_lt_zero _), fun _ => rfl⟩
  | n + 1 => by
    have ih := zh_one (e := e) (n := n)
    have hb : (2 ^ e).testBit n = decide (e = n) := Nat.testBit_two_pow
    rw [List.range_succ, List.filter_append]
    refine ⟨fun h => ?_, fun h => ?_⟩
    · by_cases he : e = n
      · rw [ih.2 (by omega)]
        simp [hb, he]
      · rw [ih.1 (by omega)]
        simp [hb, he]
    · rw [ih.2 (by omega)]
      simp [hb, show ¬ (e = n) by omega]
theorem zhL_one {w : Nat → Int} {n e : Nat} (h : e < n) : zhL w n (2 ^ e) = [w e] := by
  unfold zhL
  rw [zh_one.1 h]
  rfl
/-- of each set of more than one: some two sets are joined -/
def zhP3 (w : Nat → Int) (n : Nat) (j : Nat → Int) : Prop := ∀ s, s ≠ 0 → s < 2 ^ n → (∃ e, e < n ∧ s = 2 ^ e) ∨ ∃ a b, a ≠ 0 ∧ b ≠ 0 ∧ a &&& b = 0 ∧ a ||| b = s ∧ j s = j a + j b + zhw w n s
def zhsh (P : List (Int × Nat)) : List (Int × Nat) := P.map (fun q => (q.1, q.2 + 1))
theorem zhsh_f (P : List (Int × Nat)) : (zhsh P).map Prod.fst = P.map Prod.fst := by
  unfold zhsh
  rw [List.map_map]
  rfl
theorem zhsh_c : ∀ P : List (Int × Nat), zhc (zhsh P) = zhc P + zhs (P.map Prod.fst)
  | [] => rfl
  | q :: t => by
    show q.1 * ((q.2 + 1 : Nat) : Int) + zhc (zhsh t) = q.1 * (q.2 : Int) + zhc t + (q.1 + zhs (t.map Prod.fst))
    rw [zhsh_c t, show ((q.2 + 1 : Nat) : Int) = (q.2 : Int) + 1 by omega, Int.mul_add, Int.mul_one]
    omega
theorem zhsh_k {M : Nat} : ∀ P : List (Int × Nat), zhK (M + 1) ((zhsh P).map Prod.snd) = zhK M (P.map Prod.snd)
  | [] => rfl
  | q :: t => by
    show 2 ^ (M + 1 - (q.2 + 1)) + zhK (M + 1) ((zhsh t).map Prod.snd) = 2 ^ (M - q.2) + zhK M (t.map Prod.snd)
    rw [zhsh_k t, show M + 1 - (q.2 + 1) = M - q.2 by omega]
theorem zhsh_m {M : Nat} {P : List (Int × Nat)} (h : ∀ d ∈ P.map Prod.snd, d ≤ M) : ∀ d ∈ (zhsh P).map Prod.snd, d ≤ M + 1 := fun d hd => by
  unfold zhsh at hd
  rw [List.map_map] at hd
  obtain ⟨q, hq, e⟩ := List.mem_map.mp hd
  have := h q.2 (List.mem_map.mpr ⟨q, hq, rfl⟩)
  have e : q.2 + 1 = d := e
  omega
theorem zhKr_join {P Q : List (Int × Nat)} (hP : zhKr (P.map Prod.snd)) (hQ : zhKr (Q.map Prod.snd)) : zhKr ((zhsh P ++ zhsh Q).map Prod.snd) := by
  obtain ⟨M, m1, m2⟩ := id hP
  obtain ⟨N, n1, n2⟩ := id hQ
  have a1 : ∀ d ∈ P.map Prod.snd, d ≤ M + N := fun d hd => by have := m1 d hd; omega
  have b1 : ∀ d ∈ Q.map Prod.snd, d ≤ M + N := fun d hd => by have := n1 d hd; omega
  refine ⟨M + N + 1, fun d hd => ?_, ?_⟩
  · rw [List.map_append] at hd
    rcases List.mem_append.mp hd with hd | hd
    · exact zhsh_m a1 d hd
    · exact zhsh_m b1 d hd
  · rw [List.map_append, zhK_app, zhsh_k, zhsh_k, zhKr_at hP a1, zhKr_at hQ b1, Nat.pow_succ]
    omega
/-- what a set costs, as depths -/
theorem zh_dep {w : Nat → Int} {n : Nat} {j : Nat → Int} (hj : zhP3 w n j) (h0 : ∀ e, e < n → j (2 ^ e) = 0) : ∀ (s : Nat), s ≠ 0 → s < 2 ^ n → ∃ P : List (Int × Nat), (zhL w n s).Perm (P.map Prod.fst) ∧ zhKr (P.map Prod.snd) ∧ zhc P = j s := fun s => by
  induction s using Nat.strongRecOn with
  | ind s ih =>
    intro hs hlt
    rcases hj s hs hlt with ⟨e, he, rfl⟩ | ⟨a, b, ha, hb, hab, rfl, hc⟩
    · refine ⟨[(w e, 0)], by rw [zhL_one he]; exact List.Perm.refl _, ⟨0, fun d hd => by rw [List.mem_singleton.mp hd]; exact Nat.le_refl _, rfl⟩, ?_⟩
      rw [h0 e he]
      show w e * ((0 : Nat) : Int) + 0 = 0
      simp
    · have hle1 : a ≤ a ||| b := Nat.left_le_or
      have hle2 : b ≤ a ||| b := Nat.right_le_or
      have hne1 : a ≠ a ||| b := fun q => by
        have hx : a &&& b = b := by rw [q]; exact Nat.eq_of_testBit_eq (fun e => by rw [Nat.testBit_and, Nat.testBit_or]; cases a.testBit e <;> cases b.testBit e <;> rfl)
        omega
      have hne2 : b ≠ a ||| b := fun q => by
        have hx : a &&& b = a := by
          have : a &&& (a ||| b) = a := Nat.eq_of_testBit_eq (fun e => by rw [Nat.testBit_and, Nat.testBit_or]; cases a.testBit e <;> cases b.testBit e <;> rfl)
          rw [← q] at this
          exact this
        omega
      obtain ⟨P, p1, p2, p3⟩ := ih a (by omega) ha (by omega)
      obtain ⟨Q, q1, q2, q3⟩ := ih b (by omega) hb (by omega)
      refine ⟨zhsh P ++ zhsh Q, ?_, zhKr_join p2 q2, ?_⟩
      · rw [List.map_append, zhsh_f, zhsh_f]
        exact (zhL_or hab).trans (p1.append q1)
      · rw [zhc_app, zhsh_c, zhsh_c, p3, q3, ← zhs_perm p1, ← zhs_perm q1, zhL_sum, zhL_sum, hc, zhw_or hab]
        omega
/-! all threads, each by itself -/
def zhF (n : Nat) (s : Nat) : List Nat := ((List.range n).filter (fun e => s.testBit e)).map (fun e => 2 ^ e)
theorem zhu_app : ∀ l m, zhu (l ++ m) = zhu l ||| zhu m
  | [], m => by show zhu m = 0 ||| zhu m; rw [Nat.zero_or]
  | a :: t, m => by show a ||| zhu (t ++ m) = (a ||| zhu t) ||| zhu m; rw [zhu_app t m, Nat.or_assoc]
theorem zhn_app {e : Nat} : ∀ l m, zhn e (l ++ m) = zhn e l + zhn e m
  | [], m => by show zhn e m = 0 + zhn e m; omega
  | a :: t, m => by show _ + zhn e (t ++ m) = _ + zhn e t + zhn e m; rw [zhn_app t m]; omega
theorem zhF_u {s : Nat} : ∀ n, ∀ i, (zhu (zhF n s)).testBit i = (decide (i < n) && s.testBit i)
  | 0, i => by
    show (0 : Nat).testBit i = _
    rw [Nat.zero_testBit]
    rfl
  | n + 1, i => by
    unfold zhF
    rw [List.range_succ, List.filter_append, List.map_append, zhu_app, Nat.testBit_or]
    have ih := zhF_u (s := s) n i
    unfold zhF at ih
    rw [ih]
    cases h : s.testBit n
    · have e : zhu (([n].filter (fun e => s.testBit e)).map (fun e => 2 ^ e)) = 0 := by simp [h, zhu]
      rw [e, Nat.zero_testBit, Bool.or_false]
      by_cases hi : i = n
      · subst hi
        simp [h]
      · have : decide (i < n + 1) = decide (i < n) := by
          by_cases hq : i < n
          · simp [hq]; omega
          · simp [hq]; omega
        rw [this]
    · have e : zhu (([n].filter (fun e => s.testBit e)).map (fun e => 2 ^ e)) = 2 ^ n := by simp [h, zhu]
      rw [e, Nat.testBit_two_pow]
      by_cases hi : i = n
      · subst hi
        simp [h]
      · have h1 : decide (n = i) = false := by simp; omega
        have : decide (i < n + 1) = decide (i < n) := by
          by_cases hq : i < n
          · simp [hq]; omega
          · simp [hq]; omega
        rw [h1, this, Bool.or_false]
theorem zhF_all {n s : Nat} (hs : s < 2 ^ n) : zhu (zhF n s) = s := Nat.eq_of_testBit_eq (fun i => by
  rw [zhF_u n i]
  by_cases hi : i < n
  · simp [hi]
  · rw [Nat.testBit_lt_two_pow (Nat.lt_of_lt_of_le hs (Nat.pow_le_pow_right (by omega) (by omega)))]
    simp)
theorem zhF_n {s e : Nat} : ∀ n, zhn e (zhF n s) ≤ 1 ∧ (n ≤ e → zhn e (zhF n s) = 0)
  | 0 => ⟨Nat.zero_le _, fun _ => rfl⟩
  | n + 1 => by
    have ih := zhF_n (s := s) (e := e) n
    unfold zhF at ih ⊢
    rw [List.range_succ, List.filter_append, List.map_append, zhn_app]
    cases h : s.testBit n
    · have q : zhn e (([n].filter (fun e => s.testBit e)).map (fun e => 2 ^ e)) = 0 := by simp [h, zhn]
      rw [q]
      exact ⟨by omega, fun hh => by have := ih.2 (by omega); omega⟩
    · have q : zhn e (([n].filter (fun e => s.testBit e)).map (fun e => 2 ^ e)) = if (2 ^ n).testBit e = true then 1 else 0 := by simp [h, zhn]
      rw [q, Nat.testBit_two_pow]
      by_cases he : n = e
      · have := ih.2 (by omega)
        rw [this]
        simp [he]
      · simp only [he, decide_false, Bool.false_eq_true, if_false]
        exact ⟨by omega, fun hh => by have := ih.2 (by omega); omega⟩
theorem zhF_w {w : Nat → Int} {n s : Nat} : (zhF n s).map (zhw w n) = zhL w n s := by
  unfold zhF zhL
  rw [List.map_map]
  refine List.map_congr_left (fun e he => ?_)
  have he : e < n := List.mem_range.mp (List.mem_filter.mp he).1
  show zhw w n (2 ^ e) = w e
  rw [← zhL_sum, zhL_one he]
  show w e + 0 = w e
  omega
theorem zhF_j {j : Nat → Int} {n s : Nat} (h0 : ∀ e, e < n → j (2 ^ e) = 0) : zhj j (zhF n s) = 0 := by
  have key : ∀ l : List Nat, (∀ m ∈ l, j m = 0) → zhj j l = 0 := fun l => by
    induction l with
    | nil => intro _; rfl
    | cons a t ih =>
      intro h
      show j a + zhj j t = 0
      rw [h a (List.mem_cons_self ..), ih (fun m hm => h m (List.mem_cons_of_mem _ hm))]
      rfl
  refine key _ (fun m hm => ?_)
  obtain ⟨e, he, rfl⟩ := List.mem_map.mp hm
  exact h0 e (List.mem_range.mp (List.mem_filter.mp he).1)
/-- a set costs no more than joining its two shortest -/
theorem zh_ups {w : Nat → Int} {n : Nat} {j : Nat → Int} (hj : zhP2 w n j) (h0 : ∀ e, e < n → j (2 ^ e) = 0) {s : Nat} (hs : s ≠ 0) (hlt : s < 2 ^ n) {S : List Int} (hS : zhS S) (hp : S.Perm (zhL w n s)) : j s ≤ zhH S.length S := by
  have hl : (zhF n s).length = S.length := by
    have := hp.length_eq
    rw [← zhF_w, List.length_map] at this
    exact this.symm
  have := zh_up hj S.length (zhF n s) S hl (fun e => by
    have := zhF_all hlt
    rw [e] at this
    exact hs this.symm) hS (by rw [zhF_w]; exact hp) (fun m hm => by
    obtain ⟨e, -, rfl⟩ := List.mem_map.mp hm
    have := Nat.two_pow_pos e
    omega) (fun e => (zhF_n n).1) (by rw [zhF_all hlt]; exact hlt)
  rw [zhF_all hlt, zhF_j h0] at this
  omega
def zhso : List Int → List Int
  | [] => []
  | a :: t => zhI a (zhso t)
theorem zhso_s : ∀ l, zhS (zhso l)
  | [] => List.Pairwise.nil
  | a :: t => zhI_s a _ (zhso_s t)
theorem zhso_p : ∀ l : List Int, (zhso l).Perm l
  | [] => List.Perm.refl _
  | a :: t => (zhI_perm a _).trans ((zhso_p t).cons a)
theorem zhs_nn : ∀ {l : List Int}, (∀ x ∈ l, 0 ≤ x) → 0 ≤ zhs l
  | [], _ => Int.le_refl _
  | a :: t, h => by
    have h1 := h a (List.mem_cons_self ..)
    have h2 := zhs_nn (l := t) (fun x hx => h x (List.mem_cons_of_mem _ hx))
    show 0 ≤ a + zhs t
    omega
theorem zhH_le : ∀ (k : Nat) {l : List Int}, (∀ x ∈ l, 0 ≤ x) → zhH k l ≤ (k : Int) * zhs l
  | 0, l, _ => by
    show (0 : Int) ≤ ((0 : Nat) : Int) * zhs l
    simp
  | k + 1, [], _ => by
    show (0 : Int) ≤ ((k + 1 : Nat) : Int) * 0
    simp
  | k + 1, [x], h => by
    show (0 : Int) ≤ ((k + 1 : Nat) : Int) * zhs [x]
    exact Int.mul_nonneg (by omega) (zhs_nn h)
  | k + 1, x :: y :: t, h => by
    have hx := h x (List.mem_cons_self ..)
    have hy := h y (List.mem_cons_of_mem _ (List.mem_cons_self ..))
    have ht := zhs_nn (l := t) (fun z hz => h z (List.mem_cons_of_mem _ (List.mem_cons_of_mem _ hz)))
    have ih := zhH_le k (l := zhI (x + y) t) (fun z hz => by
      rcases List.mem_cons.mp ((zhI_perm _ _).subset hz) with rfl | hz
      · omega
      · exact h z (List.mem_cons_of_mem _ (List.mem_cons_of_mem _ hz)))
    rw [zhs_perm (zhI_perm (x + y) t)] at ih
    have ih : zhH k (zhI (x + y) t) ≤ (k : Int) * (x + y + zhs t) := ih
    show x + y + zhH k (zhI (x + y) t) ≤ ((k + 1 : Nat) : Int) * (x + (y + zhs t))
    rw [show ((k + 1 : Nat) : Int) = (k : Int) + 1 by omega, Int.add_mul, Int.one_mul, show x + (y + zhs t) = x + y + zhs t by omega]
    omega
theorem zhw_b {w : Nat → Int} (h : ∀ e, 0 ≤ w e ∧ w e ≤ 99) {s : Nat} : ∀ n : Nat, 0 ≤ zhw w n s ∧ zhw w n s ≤ 99 * (n : Int)
  | 0 => ⟨Int.le_refl _, Int.le_refl _⟩
  | n + 1 => by
    have ih := zhw_b h (s := s) n
    have := h n
    show 0 ≤ zhw w n s + (if s.testBit n = true then w n else 0) ∧ zhw w n s + (if s.testBit n = true then w n else 0) ≤ 99 * ((n + 1 : Nat) : Int)
    split <;> omega
theorem zhL_len {w : Nat → Int} {n s : Nat} : (zhL w n s).length ≤ n := by
  unfold zhL
  rw [List.length_map]
  exact Nat.le_trans (List.length_filter_le _ _) (by rw [List.length_range]; exact Nat.le_refl _)
theorem zh_bd {w : Nat → Int} {n : Nat} {j : Nat → Int} (hj : zhP2 w n j) (h0 : ∀ e, e < n → j (2 ^ e) = 0) (hw : ∀ e, 0 ≤ w e ∧ w e ≤ 99) (hn : n ≤ 8) {s : Nat} (hs : s ≠ 0) (hlt : s < 2 ^ n) : j s ≤ 6400 := by
  have h1 := zh_ups hj h0 hs hlt (zhso_s (zhL w n s)) (zhso_p _)
  have hnn : ∀ x ∈ zhL w n s, 0 ≤ x := fun x hx => by
    unfold zhL at hx
    obtain ⟨e, -, rfl⟩ := List.mem_map.mp hx
    exact (hw e).1
  have h2 := zhH_le (zhso (zhL w n s)).length (l := zhso (zhL w n s)) (fun x hx => hnn x ((zhso_p _).subset hx))
  rw [zhs_perm (zhso_p _), zhL_sum] at h2
  have h3 := zhw_b hw (s := s) n
  have h4 : (zhso (zhL w n s)).length ≤ 8 := by rw [(zhso_p _).length_eq]; exact Nat.le_trans zhL_len hn
  have h5 : (((zhso (zhL w n s)).length : Nat) : Int) * zhw w n s ≤ 8 * zhw w n s := Int.mul_le_mul_of_nonneg_right (by omega) h3.1
  omega
/-- both: the least of all sets, the two shortest joined -/
theorem zh_both {w : Nat → Int} {n : Nat} {j : Nat → Int} (h2 : zhP2 w n j) (h3 : zhP3 w n j) (h0 : ∀ e, e < n → j (2 ^ e) = 0) (hn : 1 ≤ n) {S : List Int} (hS : zhS S) (hp : S.Perm (zhL w n (2 ^ n - 1))) : j (2 ^ n - 1) = zhH S.length S := by
  have hpos := Nat.two_pow_pos n
  have h2n : 2 ≤ 2 ^ n := by
    rw [show n = (n - 1) + 1 by omega, Nat.pow_succ]
    have := Nat.two_pow_pos (n - 1)
    omega
  have a := zh_ups h2 h0 (s := 2 ^ n - 1) (by omega) (by omega) hS hp
  obtain ⟨P, p1, p2, p3⟩ := zh_dep h3 h0 (2 ^ n - 1) (by omega) (by omega)
  have b := zh_low S.length S P rfl hS (hp.trans p1) p2
  omega
theorem zhL_all {w : Nat → Int} {n : Nat} : zhL w n (2 ^ n - 1) = (List.range n).map w := by
  unfold zhL
  congr 1
  refine List.filter_eq_self.mpr (fun e he => ?_)
  rw [Nat.testBit_two_pow_sub_one]
  exact decide_eq_true (List.mem_range.mp he)
