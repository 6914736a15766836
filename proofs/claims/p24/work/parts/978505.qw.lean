/-! SERVED: what the walks keep: an order that grows, sets by bits, both answers -/
def zoN (f : Int → Int) : Nat → Int := fun e => if e < 10 then f (e : Int) else 0
def zoO (g : Int → Int) : Nat → Nat := fun x => (g (x : Int)).toNat
theorem zoN_at {f : Int → Int} {e : Nat} (h : e < 10) : zoN f e = f (e : Int) := if_pos h
theorem zoN_cg {f f' : Int → Int} (h : ∀ i : Int, 0 ≤ i → i < 10 → f i = f' i) : zoN f = zoN f' := by
  funext e
  unfold zoN
  split
  · exact h _ (by omega) (by omega)
  · rfl
theorem zqO_0 {d : Nat → Int} {o : Nat → Nat} : zqO d 0 o := ⟨fun j h => absurd h (Nat.not_lt_zero _), fun e h => absurd h (Nat.not_lt_zero _), fun i j _ h => absurd h (Nat.not_lt_zero _)⟩
theorem zqO_ins {d : Nat → Int} {n j : Nat} {o o' : Nat → Nat} (h : zqO d n o) (hj : j ≤ n) (hl : ∀ x, x < j → d (o x) ≤ d n) (hu : ∀ x, j ≤ x → x < n → d n < d (o x)) (e1 : ∀ x, x < j → o' x = o x) (e2 : o' j = n) (e3 : ∀ x, j ≤ x → x < n → o' (x + 1) = o x) : zqO d (n + 1) o' := by
  have cs : ∀ y, y < n + 1 → (y < j ∧ o' y = o y ∧ o y < n) ∨ (y = j ∧ o' y = n) ∨ (∃ x, y = x + 1 ∧ j ≤ x ∧ x < n ∧ o' y = o x ∧ o x < n) := fun y hy => by
    by_cases a : y < j
    · exact Or.inl ⟨a, e1 y a, h.1 y (by omega)⟩
    · by_cases b : y = j
      · exact Or.inr (Or.inl ⟨b, by rw [b]; exact e2⟩)
      · refine Or.inr (Or.inr ⟨y - 1, by omega, by omega, by omega, ?_, h.1 _ (by omega)⟩)
        have := e3 (y - 1) (by omega) (by omega)
        rw [show y - 1 + 1 = y by omega] at this
        exact this
  refine ⟨fun y hy => ?_, fun e he => ?_, fun a b hab hb => ?_⟩
  · rcases cs y hy with ⟨_, q, q2⟩ | ⟨_, q⟩ | ⟨x, _, _, _, q, q2⟩ <;> omega
  · by_cases hen : e = n
    · exact ⟨j, by omega, by rw [hen]; exact e2⟩
    · obtain ⟨x, x1, x2⟩ := h.2.1 e (by omega)
      by_cases a : x < j
      · exact ⟨x, by omega, by rw [e1 x a]; exact x2⟩
      · exact ⟨x + 1, by omega, by rw [e3 x (by omega) x1]; exact x2⟩
  · rcases cs a (by omega) with ⟨p1, p2, p3⟩ | ⟨p1, p2⟩ | ⟨x, p1, p2, p3, p4, p5⟩
    · rcases cs b hb with ⟨q1, q2, q3⟩ | ⟨q1, q2⟩ | ⟨y, q1, q2, q3, q4, q5⟩
      · rw [p2, q2]; exact h.2.2 a b hab (by omega)
      · rw [p2, q2]; have := hl a p1; unfold zqK; omega
      · rw [p2, q4]; exact h.2.2 a y (by omega) q3
    · rcases cs b hb with ⟨q1, q2, q3⟩ | ⟨q1, q2⟩ | ⟨y, q1, q2, q3, q4, q5⟩
      · omega
      · omega
      · rw [p2, q4]; have := hu y q2 q3; unfold zqK; omega
    · rcases cs b hb with ⟨q1, q2, q3⟩ | ⟨q1, q2⟩ | ⟨y, q1, q2, q3, q4, q5⟩
      · omega
      · omega
      · rw [p4, q4]; exact h.2.2 x y (by omega) q3
/-- the row of places is an order -/
def zoR (f g : Int → Int) (n : Int) : Prop := (∀ q : Int, 0 ≤ q → q < n → 0 ≤ g q ∧ g q < n) ∧ zqO (zoN f) n.toNat (zoO g)
theorem zoR_0 {f g : Int → Int} : zoR f g 0 := ⟨fun q q0 q1 => absurd q1 (by omega), zqO_0⟩
theorem zo_ins {f g g' : Int → Int} {i j : Int} (hi : 0 ≤ i ∧ i ≤ 9) (hj : 0 ≤ j ∧ j ≤ i) (h : zoR f g i) (hl : j = 0 ∨ f (g (j - 1)) ≤ f i) (hu : ∀ x : Int, j ≤ x → x < i → f i < f (g x)) (e1 : ∀ x : Int, 0 ≤ x → x < j → g' x = g x) (e2 : g' j = i) (e3 : ∀ x : Int, j ≤ x → x < i → g' (x + 1) = g x) : zoR f g' (i + 1) := by
  obtain ⟨h1, h2⟩ := h
  have hN : zoN f i.toNat = f i := by rw [zoN_at (by omega), show ((i.toNat : Nat) : Int) = i by omega]
  have hG : ∀ x : Nat, (x : Int) < i → ((zoO g x : Nat) : Int) = g (x : Int) ∧ zoN f (zoO g x) = f (g (x : Int)) := fun x hx => by
    have := h1 x (by omega) hx
    have e : ((zoO g x : Nat) : Int) = g (x : Int) := by unfold zoO; omega
    exact ⟨e, by rw [zoN_at (by omega), e]⟩
  refine ⟨fun q q0 q1 => ?_, ?_⟩
  · by_cases a : q < j
    · rw [e1 q q0 a]
      have := h1 q q0 (by omega)
      omega
    · by_cases b : q = j
      · rw [b, e2]
        omega
      · have e := e3 (q - 1) (by omega) (by omega)
        rw [show q - 1 + 1 = q by omega] at e
        rw [e]
        have := h1 (q - 1) (by omega) (by omega)
        omega
  · rw [show (i + 1).toNat = i.toNat + 1 by omega]
    refine zqO_ins (j := j.toNat) h2 (by omega) (fun x hx => ?_) (fun x x0 x1 => ?_) (fun x hx => ?_) ?_ (fun x x0 x1 => ?_)
    · rw [hN, (hG x (by omega)).2]
      rcases hl with hl | hl
      · omega
      · by_cases hx2 : x = j.toNat - 1
        · rw [show ((x : Nat) : Int) = j - 1 by omega]
          exact hl
        · have k := h2.2.2 x (j.toNat - 1) (by omega) (by omega)
          unfold zqK at k
          rw [(hG x (by omega)).2, (hG (j.toNat - 1) (by omega)).2, show (((j.toNat - 1 : Nat)) : Int) = j - 1 by omega] at k
          omega
    · rw [hN, (hG x (by omega)).2]
      exact hu x (by omega) (by omega)
    · unfold zoO
      rw [e1 x (by omega) (by omega)]
    · unfold zoO
      rw [show ((j.toNat : Nat) : Int) = j by omega, e2]
    · unfold zoO
      rw [show (((x + 1 : Nat)) : Int) = (x : Int) + 1 by omega, e3 x (by omega) (by omega)]
/-! the table, a row further -/
theorem zqI_w {G D : Nat → Int} {L L' : Int → Int} {i most need due : Int} (hi : 0 ≤ i) (hm : 0 ≤ most) (hI : zqI G D i.toNat most.toNat (fun m : Nat => L (m : Int))) (hG : G i.toNat = need) (hD : D i.toNat = due) (h0 : L' 0 = L 0) (hB : ∀ m : Int, 0 < m → m ≤ most → L' m = if L (m - 1) + need ≤ due then min (L m) (L (m - 1) + need) else L m) (hC : L most + need ≤ due → L' (most + 1) = L most + need) : (L most + need ≤ due → zqI G D (i + 1).toNat (most + 1).toNat (fun m : Nat => L' (m : Int))) ∧ (¬ (L most + need ≤ due) → zqI G D (i + 1).toNat most.toNat (fun m : Nat => L' (m : Int))) := by
  have hmc : ((most.toNat : Nat) : Int) = most := by omega
  have e := zqI_s (ls' := fun m : Nat => L' (m : Int)) hI h0 (fun m hm1 => by
    have q := hB ((m : Int) + 1) (by omega) (by omega)
    rw [show ((m : Int) + 1 - 1) = (m : Int) by omega] at q
    show L' ((m + 1 : Nat) : Int) = (if L (m : Int) + G i.toNat ≤ D i.toNat then min (L ((m + 1 : Nat) : Int)) (L (m : Int) + G i.toNat) else L ((m + 1 : Nat) : Int))
    rw [show ((m + 1 : Nat) : Int) = (m : Int) + 1 by omega, q, hG, hD]) (fun h => by
    have h : L (most.toNat : Int) + G i.toNat ≤ D i.toNat := h
    show L' ((most.toNat + 1 : Nat) : Int) = L (most.toNat : Int) + G i.toNat
    rw [hmc, hG, hD] at h
    rw [show ((most.toNat + 1 : Nat) : Int) = most + 1 by omega, hmc, hG]
    exact hC h)
  have e : zqI G D (i.toNat + 1) (if L (most.toNat : Int) + G i.toNat ≤ D i.toNat then most.toNat + 1 else most.toNat) (fun m : Nat => L' (m : Int)) := e
  rw [hmc, hG, hD] at e
  rw [show (i + 1).toNat = i.toNat + 1 by omega, show (most + 1).toNat = most.toNat + 1 by omega]
  exact ⟨fun h => by rw [if_pos h] at e; exact e, fun h => by rw [if_neg h] at e; exact e⟩
theorem zqI_b {L L' : Int → Int} {i most need due : Int} (hne : 0 ≤ need ∧ need ≤ 20) (hL : ∀ m : Int, 0 ≤ m → m ≤ most → 0 ≤ L m ∧ L m ≤ 20 * i) (h0 : L' 0 = L 0) (hB : ∀ m : Int, 0 < m → m ≤ most → L' m = if L (m - 1) + need ≤ due then min (L m) (L (m - 1) + need) else L m) : ∀ m : Int, 0 ≤ m → m ≤ most → 0 ≤ L' m ∧ L' m ≤ 20 * (i + 1) := fun m m0 m1 => by
  have a := hL m m0 m1
  by_cases hm : m = 0
  · rw [hm, h0]
    rw [hm] at a
    omega
  · have b := hL (m - 1) (by omega) (by omega)
    rw [hB m (by omega) m1]
    split <;> omega
theorem zqT_w {g : Nat → Int} {c : Nat → Bool} {t need i : Int} (hi : 0 ≤ i) (hg : g i.toNat = need) (hc : c i.toNat = true) (ht : t = zqT g c i.toNat) : t + need = zqT g c (i + 1).toNat := by
  rw [show (i + 1).toNat = i.toNat + 1 by omega]
  show t + need = zqT g c i.toNat + if c i.toNat = true then g i.toNat else 0
  rw [if_pos hc, hg, ht]
theorem zqL_w {g d : Nat → Int} {c : Nat → Bool} {t v need due i : Int} (hi : 0 ≤ i) (hg : g i.toNat = need) (hd : d i.toNat = due) (hc : c i.toNat = true) (ht : t = zqT g c i.toNat) (hv : v = zqL g d c i.toNat) : v + max 0 (t + need - due) = zqL g d c (i + 1).toNat := by
  rw [show (i + 1).toNat = i.toNat + 1 by omega]
  show v + max 0 (t + need - due) = zqL g d c i.toNat + if c i.toNat = true then max 0 (zqT g c i.toNat + g i.toNat - d i.toNat) else 0
  rw [if_pos hc, hg, hd, ht, hv]
theorem zqT_o {g : Nat → Int} {c : Nat → Bool} {t i : Int} (hi : 0 ≤ i) (hc : c i.toNat = false) (ht : t = zqT g c i.toNat) : t = zqT g c (i + 1).toNat := by
  rw [show (i + 1).toNat = i.toNat + 1 by omega]
  show t = zqT g c i.toNat + if c i.toNat = true then g i.toNat else 0
  rw [hc, if_neg (by decide), Int.add_zero, ht]
theorem zqL_o {g d : Nat → Int} {c : Nat → Bool} {v i : Int} (hi : 0 ≤ i) (hc : c i.toNat = false) (hv : v = zqL g d c i.toNat) : v = zqL g d c (i + 1).toNat := by
  rw [show (i + 1).toNat = i.toNat + 1 by omega]
  show v = zqL g d c i.toNat + if c i.toNat = true then max 0 (zqT g c i.toNat + g i.toNat - d i.toNat) else 0
  rw [hc, if_neg (by decide), Int.add_zero, hv]
/-! the order that is found one by one -/
def zfo (d : Nat → Int) (N k s : Nat) (o : Nat → Nat) : Prop := zqOn N s = k ∧ s < 2 ^ N ∧ (∀ x, x < k → o x < N ∧ s.testBit (o x) = true) ∧ (∀ x y, x < y → y < k → zqK d (o x) (o y)) ∧ (∀ x, x < k → ∀ z, z < N → s.testBit z = false → zqK d (o x) z) ∧ ∀ z, s.testBit z = true → ∃ x, x < k ∧ o x = z
theorem zqOn_0 : ∀ n, zqOn n 0 = 0
  | 0 => rfl
  | n + 1 => by
    show zqOn n 0 + (if (0 : Nat).testBit n = true then 1 else 0) = 0
    rw [zqOn_0 n, Nat.zero_testBit]
    rfl
theorem zfo_0 {d : Nat → Int} {N : Nat} {o : Nat → Nat} : zfo d N 0 0 o :=
  ⟨zqOn_0 N, Nat.two_pow_pos N, fun x h => absurd h (Nat.not_lt_zero _), fun x y _ h => absurd h (Nat.not_lt_zero _), fun x h => absurd h (Nat.not_lt_zero _), fun z h => by rw [Nat.zero_testBit] at h; cases h⟩
theorem zqOn_all {s : Nat} : ∀ {n : Nat}, (∀ z, z < n → s.testBit z = true) → zqOn n s = n
  | 0, _ => rfl
  | n + 1, h => by
    show zqOn n s + (if s.testBit n = true then 1 else 0) = n + 1
    rw [zqOn_all (fun z hz => h z (by omega)), if_pos (h n (by omega))]
theorem zqOn_le {s : Nat} : ∀ {n : Nat}, zqOn n s ≤ n
  | 0 => Nat.le_refl _
  | n + 1 => by
    have ih := zqOn_le (s := s) (n := n)
    show zqOn n s + (if s.testBit n = true then 1 else 0) ≤ n + 1
    split <;> omega
theorem zqOn_full {s : Nat} (n : Nat) : zqOn n s = n → ∀ z, z < n → s.testBit z = true := by
  induction n with
  | zero => intro _ z hz; exact absurd hz (Nat.not_lt_zero _)
  | succ n ih =>
    intro h z hz
    have h : zqOn n s + (if s.testBit n = true then 1 else 0) = n + 1 := h
    have hl := zqOn_le (s := s) (n := n)
    by_cases hb : s.testBit n = true
    · rw [if_pos hb] at h
      by_cases hzn : z = n
      · rw [hzn]; exact hb
      · exact ih (by omega) z (by omega)
    · rw [if_neg hb] at h
      omega
theorem zqOn_cg {s t : Nat} : ∀ {n : Nat}, (∀ z, z < n → s.testBit z = t.testBit z) → zqOn n s = zqOn n t
  | 0, _ => rfl
  | n + 1, h => by
    show zqOn n s + (if s.testBit n = true then 1 else 0) = zqOn n t + (if t.testBit n = true then 1 else 0)
    rw [zqOn_cg (fun z hz => h z (by omega)), h n (by omega)]
theorem zqOn_up {s x : Nat} (hx : s.testBit x = false) : ∀ {n : Nat}, x < n → zqOn n (s ||| 2 ^ x) = zqOn n s + 1
  | 0, h => absurd h (Nat.not_lt_zero _)
  | n + 1, h => by
    show zqOn n (s ||| 2 ^ x) + (if (s ||| 2 ^ x).testBit n = true then 1 else 0) = zqOn n s + (if s.testBit n = true then 1 else 0) + 1
    by_cases hxn : x = n
    · have e : zqOn n (s ||| 2 ^ x) = zqOn n s := zqOn_cg (fun z hz => by
        rw [Nat.testBit_or, Nat.testBit_two_pow]
        simp
        omega)
      rw [e, Nat.testBit_or, Nat.testBit_two_pow, ← hxn, hx]
      simp
    · rw [zqOn_up hx (show x < n by omega), Nat.testBit_or, Nat.testBit_two_pow]
      have : decide (x = n) = false := by simpa using hxn
      rw [this, Bool.or_false]
      omega
theorem zfo_ex {d : Nat → Int} {N k s : Nat} {o : Nat → Nat} (h : zfo d N k s o) (hk : k < N) : ¬ (∀ z, z < N → s.testBit z = true) := fun hz => by
  have := zqOn_all hz
  rw [h.1] at this
  omega
theorem zfo_s {d : Nat → Int} {N k s x : Nat} {o o' : Nat → Nat} (h : zfo d N k s o) (hx : x < N) (hs : s.testBit x = false) (hm : ∀ z, z < N → s.testBit z = false → z ≠ x → zqK d x z) (e1 : ∀ y, y < k → o' y = o y) (e2 : o' k = x) : zfo d N (k + 1) (s ||| 2 ^ x) o' := by
  obtain ⟨h1, h2, h3, h4, h5, h6⟩ := h
  have hb : ∀ z, (s ||| 2 ^ x).testBit z = (s.testBit z || decide (x = z)) := fun z => by rw [Nat.testBit_or, Nat.testBit_two_pow]
  refine ⟨by rw [zqOn_up hs hx, h1], Nat.or_lt_two_pow h2 (Nat.pow_lt_pow_right (by omega) hx), fun y hy => ?_, fun y z hyz hz => ?_, fun y hy z hz hbz => ?_, fun z hz => ?_⟩
  · by_cases hyk : y = k
    · rw [hyk, e2, hb]
      exact ⟨hx, by simp⟩
    · rw [e1 y (by omega), hb, (h3 y (by omega)).2]
      exact ⟨(h3 y (by omega)).1, rfl⟩
  · by_cases hzk : z = k
    · rw [hzk, e2, e1 y (by omega)]
      exact h5 y (by omega) x hx hs
    · rw [e1 y (by omega), e1 z (by omega)]
      exact h4 y z hyz (by omega)
  · rw [hb] at hbz
    obtain ⟨b1, b2⟩ := Bool.or_eq_false_iff.mp hbz
    have hne : z ≠ x := fun q => by rw [q] at b2; simp at b2
    by_cases hyk : y = k
    · rw [hyk, e2]
      exact hm z hz b1 hne
    · rw [e1 y (by omega)]
      exact h5 y (by omega) z hz b1
  · rw [hb] at hz
    rcases Bool.or_eq_true_iff.mp hz with hz | hz
    · obtain ⟨y, y1, y2⟩ := h6 z hz
      exact ⟨y, by omega, by rw [e1 y y1]; exact y2⟩
    · exact ⟨k, by omega, by rw [e2]; simpa using hz⟩
theorem zfo_end {d : Nat → Int} {N s : Nat} {o : Nat → Nat} (h : zfo d N N s o) : zqO d N o := by
  obtain ⟨h1, h2, h3, h4, h5, h6⟩ := h
  exact ⟨fun j hj => (h3 j hj).1, fun e he => h6 e (zqOn_full N h1 e he), h4⟩
/-- the one who is next: the least by due of those that aren't done, above e -/
def zfx (d : Nat → Int) (N s : Nat) (e x : Int) : Prop := (x = -1 → ∀ z : Nat, e < (z : Int) → z < N → s.testBit z = true) ∧ (0 ≤ x → e < x ∧ x < N ∧ s.testBit x.toNat = false ∧ ∀ z : Nat, e < (z : Int) → z < N → s.testBit z = false → z ≠ x.toNat → zqK d x.toNat z)
theorem zfx_0 {d : Nat → Int} {N s : Nat} : zfx d N s ((N : Int) - 1) (-1) := ⟨fun _ z z0 z1 => by omega, fun h => by omega⟩
theorem zfx_done {d : Nat → Int} {N s : Nat} {e x : Int} (he : 0 ≤ e) (h : zfx d N s e x) (hb : s.testBit e.toNat = true) : zfx d N s (e - 1) x := by
  refine ⟨fun hx z z0 z1 => ?_, fun hx => ?_⟩
  · by_cases hz : z = e.toNat
    · rw [hz]; exact hb
    · exact h.1 hx z (by omega) z1
  · obtain ⟨a, b, c, f⟩ := h.2 hx
    refine ⟨by omega, b, c, fun z z0 z1 z2 z3 => ?_⟩
    by_cases hz : z = e.toNat
    · rw [hz, hb] at z2; cases z2
    · exact f z (by omega) z1 z2 z3
theorem zfx_new {d : Nat → Int} {N s : Nat} {e x : Int} (he : 0 ≤ e ∧ e < N) (hx : -1 ≤ x) (h : zfx d N s e x) (hb : s.testBit e.toNat = false) (hd : x = -1 ∨ d e.toNat ≤ d x.toNat) : zfx d N s (e - 1) e := by
  refine ⟨fun h => by omega, fun _ => ⟨by omega, he.2, hb, fun z z0 z1 z2 z3 => ?_⟩⟩
  by_cases hx1 : x = -1
  · have := h.1 hx1 z (by omega) z1
    rw [this] at z2; cases z2
  · obtain ⟨a, b, c, f⟩ := h.2 (by omega)
    have hd : d e.toNat ≤ d x.toNat := by omega
    by_cases hz : z = x.toNat
    · rw [hz]; unfold zqK; omega
    · have k := f z (by omega) z1 z2 hz
      unfold zqK at k ⊢
      omega
theorem zfx_old {d : Nat → Int} {N s : Nat} {e x : Int} (he : 0 ≤ e) (hx : 0 ≤ x) (h : zfx d N s e x) (hd : d x.toNat < d e.toNat) : zfx d N s (e - 1) x := by
  refine ⟨fun h => by omega, fun _ => ?_⟩
  obtain ⟨a, b, c, f⟩ := h.2 hx
  refine ⟨by omega, b, c, fun z z0 z1 z2 z3 => ?_⟩
  by_cases hz : z = e.toNat
  · rw [hz]; unfold zqK; omega
  · exact f z (by omega) z1 z2 z3
/-! how many of a set -/
set_option maxRecDepth 100000 in
theorem zpc_s : ∀ v, v < 1024 → v ≠ 0 → zqOn 10 (v &&& (v - 1)) + 1 = zqOn 10 v := by decide +kernel
theorem zqOn_ext {s n : Nat} (hs : s < 2 ^ n) : ∀ m, zqOn (n + m) s = zqOn n s
  | 0 => rfl
  | m + 1 => by
    show zqOn (n + m) s + (if s.testBit (n + m) = true then 1 else 0) = zqOn n s
    rw [zqOn_ext hs m, Nat.testBit_lt_two_pow (Nat.lt_of_lt_of_le hs (Nat.pow_le_pow_right (by omega) (by omega)))]
    rfl
theorem zqOn_10 {s n : Nat} (hn : n ≤ 10) (hs : s < 2 ^ n) : zqOn 10 s = zqOn n s := by
  have := zqOn_ext hs (10 - n)
  rw [show n + (10 - n) = 10 by omega] at this
  exact this
/-- the most so far, of sets below z -/
def zqB2 (L : Nat → Int) (N : Nat) (m z : Int) : Prop := (∀ s : Nat, (s : Int) < z → L s = 0 → zqOn N s ≤ m.toNat) ∧ (m.toNat = 0 ∨ ∃ s : Nat, (s : Int) < z ∧ L s = 0 ∧ zqOn N s = m.toNat)
theorem zqB2_0 {L : Nat → Int} {N : Nat} : zqB2 L N 0 0 := ⟨fun s h => absurd h (by omega), Or.inl rfl⟩
theorem zqB2_y {L : Nat → Int} {N : Nat} {m z : Int} (h : zqB2 L N m z) (hz : 0 ≤ z) (h0 : L z.toNat = 0) (hm : m < ((zqOn N z.toNat : Nat) : Int)) : zqB2 L N ((zqOn N z.toNat : Nat) : Int) (z + 1) := by
  refine ⟨fun s s1 s2 => ?_, Or.inr ⟨z.toNat, by omega, h0, by omega⟩⟩
  by_cases hq : s = z.toNat
  · subst hq
    omega
  · have := h.1 s (by omega) s2
    omega
theorem zqB2_n {L : Nat → Int} {N : Nat} {m z : Int} (h : zqB2 L N m z) (hz : 0 ≤ z) (hn : L z.toNat ≠ 0 ∨ ((zqOn N z.toNat : Nat) : Int) ≤ m) (hm : 0 ≤ m) : zqB2 L N m (z + 1) := by
  obtain ⟨a, b⟩ := h
  refine ⟨fun s s1 s2 => ?_, ?_⟩
  · by_cases hq : s = z.toNat
    · subst hq
      rcases hn with hn | hn
      · exact absurd s2 hn
      · omega
    · exact a s (by omega) s2
  · rcases b with b | ⟨s, s1, s2, s3⟩
    · exact Or.inl b
    · exact Or.inr ⟨s, by omega, s2, s3⟩
theorem zqB2_e {L : Nat → Int} {N : Nat} {m z : Int} (h : zqB2 L N m z) (hz : z = ((2 ^ N : Nat) : Int)) : (∀ s : Nat, s < 2 ^ N → L s = 0 → zqOn N s ≤ m.toNat) ∧ (m.toNat = 0 ∨ ∃ s : Nat, s < 2 ^ N ∧ L s = 0 ∧ zqOn N s = m.toNat) := by
  subst hz
  obtain ⟨a, b⟩ := h
  refine ⟨fun s s1 s2 => a s (Int.ofNat_lt.mpr s1) s2, ?_⟩
  rcases b with b | ⟨s, s1, s2, s3⟩
  · exact Or.inl b
  · exact Or.inr ⟨s, Int.ofNat_lt.mp s1, s2, s3⟩
/-! both answers -/
def zsX (a d : Nat → Int) (n : Nat) (w x : Int) : Prop := (w ≠ 0 ∧ w ≠ 1 → x = -1) ∧ (w = 1 → ∃ o, zqO d n o ∧ x = zqL (fun j => a (o j)) (fun j => d (o j)) (fun _ => true) n) ∧ (w = 0 → ∃ o ls, zqO d n o ∧ 0 ≤ x ∧ zqI (fun j => a (o j)) (fun j => d (o j)) n x.toNat ls)
def zsM (a d : Nat → Int) (n : Nat) (w x : Int) : Prop := (w ≠ 0 ∧ w ≠ 1 → x = -1) ∧ (w = 1 → ∃ o, zqO d n o ∧ x = zqLt a d o n (2 ^ n - 1)) ∧ (w = 0 → ∃ o, zqO d n o ∧ 0 ≤ x ∧ (∀ s, s < 2 ^ n → zqLt a d o n s = 0 → zqOn n s ≤ x.toNat) ∧ (x.toNat = 0 ∨ ∃ s, s < 2 ^ n ∧ zqLt a d o n s = 0 ∧ zqOn n s = x.toNat))
theorem zqT_cgg {g g' : Nat → Int} {c c' : Nat → Bool} : ∀ {i : Nat}, (∀ j, j < i → g j = g' j ∧ c j = c' j) → zqT g c i = zqT g' c' i
  | 0, _ => rfl
  | i + 1, h => by
    show zqT g c i + (if c i = true then g i else 0) = zqT g' c' i + (if c' i = true then g' i else 0)
    rw [zqT_cgg (fun j hj => h j (by omega)), (h i (by omega)).1, (h i (by omega)).2]
theorem zqL_cgg {g d g' d' : Nat → Int} {c c' : Nat → Bool} : ∀ {i : Nat}, (∀ j, j < i → g j = g' j ∧ d j = d' j ∧ c j = c' j) → zqL g d c i = zqL g' d' c' i
  | 0, _ => rfl
  | i + 1, h => by
    show zqL g d c i + (if c i = true then max 0 (zqT g c i + g i - d i) else 0) = zqL g' d' c' i + (if c' i = true then max 0 (zqT g' c' i + g' i - d' i) else 0)
    rw [zqL_cgg (fun j hj => h j (by omega)), zqT_cgg (fun j hj => ⟨(h j (by omega)).1, (h j (by omega)).2.2⟩), (h i (by omega)).1, (h i (by omega)).2.1, (h i (by omega)).2.2]
theorem zqLt_un {a d : Nat → Int} {o o' : Nat → Nat} {n s : Nat} (h : zqO d n o) (h' : zqO d n o') : zqLt a d o n s = zqLt a d o' n s :=
  zqL_cgg (fun j hj => by rw [zqO_un h h' j hj]; exact ⟨rfl, rfl, rfl⟩)
theorem zs_eq {a d : Nat → Int} {n : Nat} {w x y : Int} (h : zsX a d n w x) (h' : zsM a d n w y) : x = y := by
  by_cases w1 : w = 1
  · obtain ⟨o, o1, o2⟩ := h.2.1 w1
    obtain ⟨o', o1', o2'⟩ := h'.2.1 w1
    rw [o2, o2', zqLt_un o1' o1]
    refine zqL_cgg (fun j hj => ⟨rfl, rfl, ?_⟩)
    rw [Nat.testBit_two_pow_sub_one]
    exact (decide_eq_true (o1.1 j hj)).symm
  · by_cases w0 : w = 0
    · obtain ⟨o, ls, o1, o2, o3⟩ := h.2.2 w0
      obtain ⟨o', o1', o2', o3', o4'⟩ := h'.2.2 w0
      have := zqM o1 o3 (M := y.toNat) (fun s s1 s2 => o3' s s1 (by rw [zqLt_un o1' o1]; exact s2)) (by
        rcases o4' with q | ⟨s, s1, s2, s3⟩
        · exact Or.inl q
        · exact Or.inr ⟨s, s1, by rw [zqLt_un o1 o1']; exact s2, s3⟩)
      omega
    · rw [h.1 ⟨w0, w1⟩, h'.1 ⟨w0, w1⟩]
