/-! coins: what can be given, in how few hands, in how many ways -/
/-- a coin given or taken -/
def zcS (f : Int → Int) (m d : Int) : Prop := ∃ i : Int, 0 ≤ i ∧ i < m ∧ (d = f i ∨ d = - f i)
def zcU : List Int → Int
  | [] => 0
  | d :: l => d + zcU l
/-- n coins given or taken make s -/
def zcP (f : Int → Int) (m : Int) (n : Nat) (s : Int) : Prop := ∃ l : List Int, l.length = n ∧ (∀ d ∈ l, zcS f m d) ∧ zcU l = s
theorem zcP_0 {f : Int → Int} {m : Int} : zcP f m 0 0 := ⟨[], rfl, fun _ h => absurd h (by simp), rfl⟩
theorem zcP_s {f : Int → Int} {m : Int} {n : Nat} {s d : Int} (h : zcP f m n s) (hd : zcS f m d) : zcP f m (n + 1) (s + d) := by
  obtain ⟨l, h1, h2, h3⟩ := h
  refine ⟨d :: l, by simp [h1], fun x hx => ?_, ?_⟩
  · rcases List.mem_cons.mp hx with rfl | hx
    · exact hd
    · exact h2 x hx
  · show d + zcU l = s + d
    omega
theorem zcS_cg {f g : Int → Int} {m d : Int} (h : ∀ i : Int, 0 ≤ i → i < m → f i = g i) (hd : zcS f m d) : zcS g m d := by
  obtain ⟨i, i0, i1, e⟩ := hd
  exact ⟨i, i0, i1, by rw [← h i i0 i1]; exact e⟩
theorem zcP_cg {f g : Int → Int} {m s : Int} {n : Nat} (h : ∀ i : Int, 0 ≤ i → i < m → f i = g i) (hp : zcP f m n s) : zcP g m n s := by
  obtain ⟨l, h1, h2, h3⟩ := hp
  exact ⟨l, h1, fun d hd => zcS_cg h (h2 d hd), h3⟩
/-- n steps from 0 to s, never below L nor above R -/
def zcF (f : Int → Int) (m L R : Int) : Nat → Int → Prop
  | 0, s => s = 0
  | n + 1, s => (L ≤ s ∧ s ≤ R) ∧ ∃ d, zcS f m d ∧ zcF f m L R n (s - d)
theorem zcF_mono {f : Int → Int} {m L R L' R' : Int} (hL : L' ≤ L) (hR : R ≤ R') : ∀ (n : Nat) (s : Int), zcF f m L R n s → zcF f m L' R' n s
  | 0, _, h => h
  | n + 1, s, ⟨⟨h1, h2⟩, d, h3, h4⟩ => ⟨⟨by omega, by omega⟩, d, h3, zcF_mono hL hR n _ h4⟩
theorem zcU_pos : ∀ l : List Int, 0 < zcU l → ∃ x ∈ l, 0 < x
  | [], h => absurd h (by show ¬ ((0 : Int) < 0); omega)
  | d :: l, h => by
    by_cases hd : 0 < d
    · exact ⟨d, List.mem_cons_self, hd⟩
    · have h : 0 < d + zcU l := h
      obtain ⟨x, h1, h2⟩ := zcU_pos l (by omega)
      exact ⟨x, List.mem_cons_of_mem _ h1, h2⟩
theorem zcU_neg : ∀ l : List Int, zcU l < 0 → ∃ x ∈ l, x < 0
  | [], h => absurd h (by show ¬ ((0 : Int) < 0); omega)
  | d :: l, h => by
    by_cases hd : d < 0
    · exact ⟨d, List.mem_cons_self, hd⟩
    · have h : d + zcU l < 0 := h
      obtain ⟨x, h1, h2⟩ := zcU_neg l (by omega)
      exact ⟨x, List.mem_cons_of_mem _ h1, h2⟩
theorem zcU_erase {x : Int} : ∀ l : List Int, x ∈ l → zcU (l.erase x) + x = zcU l
  | [], h => absurd h (by simp)
  | d :: l, h => by
    by_cases hd : d = x
    · rw [hd, List.erase_cons_head]
      show zcU l + x = x + zcU l
      omega
    · rw [List.erase_cons_tail (by simpa using hd)]
      rcases List.mem_cons.mp h with rfl | hx
      · exact absurd rfl hd
      · have := zcU_erase l hx
        show d + zcU (l.erase x) + x = d + zcU l
        omega
/-- what is given can be put into an order that stays near -/
theorem zcR {f : Int → Int} {m p : Int} (hf : ∀ i : Int, 0 ≤ i → i < m → 0 ≤ f i ∧ f i ≤ 50) (hp : 0 ≤ p ∧ p ≤ 200) : ∀ (k : Nat) (l : List Int) (n : Nat) (s : Int), l.length = k → (∀ d ∈ l, zcS f m d) → s + zcU l = p → -50 ≤ s → s ≤ 250 → zcF f m (-50) 250 n s → zcF f m (-50) 250 (n + k) p
  | 0, l, n, s, hl, _, hs, _, _, hF => by
    have : l = [] := List.eq_nil_of_length_eq_zero hl
    subst this
    have hs : s + 0 = p := hs
    have e : s = p := by omega
    rw [← e]
    exact hF
  | k + 1, l, n, s, hl, hd, hs, s0, s1, hF => by
    obtain ⟨x, hx, h1, h2⟩ : ∃ x ∈ l, (0 < zcU l → 0 < x) ∧ (zcU l < 0 → x < 0) := by
      by_cases h0 : 0 < zcU l
      · obtain ⟨x, a, b⟩ := zcU_pos l h0
        exact ⟨x, a, fun _ => b, fun h => absurd h (by omega)⟩
      · by_cases h1 : zcU l < 0
        · obtain ⟨x, a, b⟩ := zcU_neg l h1
          exact ⟨x, a, fun h => absurd h (by omega), fun _ => b⟩
        · cases l with
          | nil => exact absurd hl (by simp)
          | cons y t => exact ⟨y, List.mem_cons_self, fun h => absurd h h0, fun h => absurd h h1⟩
    have hst := hd x hx
    obtain ⟨i, i0, i1, hi⟩ := hst
    have hb := hf i i0 i1
    have he := zcU_erase l hx
    have hlen : (l.erase x).length = k := by
      rw [List.length_erase_of_mem hx, hl]
      rfl
    have hbx : -50 ≤ x ∧ x ≤ 50 := by rcases hi with hi | hi <;> omega
    have hst := hd x hx
    have r0 : -50 ≤ s + x ∧ s + x ≤ 250 := by
      by_cases a1 : 0 < zcU l
      · have := h1 a1
        omega
      · by_cases a2 : zcU l < 0
        · have := h2 a2
          omega
        · omega
    have hF2 : zcF f m (-50) 250 (n + 1) (s + x) := ⟨r0, x, hst, by rw [show s + x - x = s by omega]; exact hF⟩
    have := zcR hf hp k (l.erase x) (n + 1) (s + x) hlen (fun d hd' => hd d (List.mem_of_mem_erase hd')) (by omega) r0.1 r0.2 hF2
    rw [show n + (k + 1) = n + 1 + k by omega]
    exact this
theorem zcR0 {f : Int → Int} {m p : Int} (hf : ∀ i : Int, 0 ≤ i → i < m → 0 ≤ f i ∧ f i ≤ 50) (hp : 0 ≤ p ∧ p ≤ 200) {n : Nat} (h : zcP f m n p) : zcF f m (-50) 250 n p := by
  obtain ⟨l, h1, h2, h3⟩ := h
  have := zcR hf hp n l 0 0 h1 h2 (by omega) (by decide) (by decide) rfl
  rw [Nat.zero_add] at this
  exact this
/-! breadth first -/
def zcv (f : Int → Int) (u k : Int) : Int := if k % 2 = 0 then u + f (k / 2) else u - f (k / 2)
theorem zcv_s {f : Int → Int} {m u k : Int} (k0 : 0 ≤ k) (k1 : k < 2 * m) : ∃ d, zcS f m d ∧ zcv f u k = u + d := by
  unfold zcv
  by_cases h : k % 2 = 0
  · rw [if_pos h]
    exact ⟨f (k / 2), ⟨k / 2, by omega, by omega, Or.inl rfl⟩, rfl⟩
  · rw [if_neg h]
    exact ⟨- f (k / 2), ⟨k / 2, by omega, by omega, Or.inr rfl⟩, by omega⟩
theorem zcv_o {f : Int → Int} {m u d : Int} (h : zcS f m d) : ∃ k, 0 ≤ k ∧ k < 2 * m ∧ zcv f u k = u + d := by
  obtain ⟨i, i0, i1, e⟩ := h
  rcases e with e | e
  · refine ⟨2 * i, by omega, by omega, ?_⟩
    unfold zcv
    rw [if_pos (by omega), show 2 * i / 2 = i by omega, e]
  · refine ⟨2 * i + 1, by omega, by omega, ?_⟩
    unfold zcv
    rw [if_neg (by omega), show (2 * i + 1) / 2 = i by omega, e]
    omega
def zBo (f : Int → Int) (m : Int) (H Q : Int → Int) (told next : Int) : Prop := (H 50 = 0) ∧ (∀ j : Int, 0 ≤ j → j ≤ 300 → 0 ≤ H j → zcP f m (H j).toNat (j - 50)) ∧ (∀ a b : Int, 0 ≤ a → a ≤ b → b < told → H (Q a) ≤ H (Q b)) ∧ (next < told → ∀ b : Int, 0 ≤ b → b < told → H (Q b) ≤ H (Q next) + 1) ∧ (∀ j : Int, 0 ≤ j → j ≤ 300 → 0 ≤ H j → ∃ a : Int, 0 ≤ a ∧ a < told ∧ Q a = j) ∧ (∀ a : Int, 0 ≤ a → a < told → 0 ≤ Q a ∧ Q a ≤ 300 ∧ 0 ≤ H (Q a)) ∧ (∀ a k : Int, 0 ≤ a → a < next → 0 ≤ k → k < 2 * m → 0 ≤ zcv f (Q a) k → zcv f (Q a) k ≤ 300 → 0 ≤ H (zcv f (Q a) k) ∧ H (zcv f (Q a) k) ≤ H (Q a) + 1) ∧ (0 ≤ next ∧ next ≤ told)
theorem zBo.h50 {f : Int → Int} {m : Int} {H Q : Int → Int} {told next : Int} (h : zBo f m H Q told next) : H 50 = 0 := h.1
theorem zBo.so {f : Int → Int} {m : Int} {H Q : Int → Int} {told next : Int} (h : zBo f m H Q told next) : ∀ j : Int, 0 ≤ j → j ≤ 300 → 0 ≤ H j → zcP f m (H j).toNat (j - 50) := h.2.1
theorem zBo.mo {f : Int → Int} {m : Int} {H Q : Int → Int} {told next : Int} (h : zBo f m H Q told next) : ∀ a b : Int, 0 ≤ a → a ≤ b → b < told → H (Q a) ≤ H (Q b) := h.2.2.1
theorem zBo.bd {f : Int → Int} {m : Int} {H Q : Int → Int} {told next : Int} (h : zBo f m H Q told next) : next < told → ∀ b : Int, 0 ≤ b → b < told → H (Q b) ≤ H (Q next) + 1 := h.2.2.2.1
theorem zBo.qi {f : Int → Int} {m : Int} {H Q : Int → Int} {told next : Int} (h : zBo f m H Q told next) : ∀ j : Int, 0 ≤ j → j ≤ 300 → 0 ≤ H j → ∃ a : Int, 0 ≤ a ∧ a < told ∧ Q a = j := h.2.2.2.2.1
theorem zBo.qr {f : Int → Int} {m : Int} {H Q : Int → Int} {told next : Int} (h : zBo f m H Q told next) : ∀ a : Int, 0 ≤ a → a < told → 0 ≤ Q a ∧ Q a ≤ 300 ∧ 0 ≤ H (Q a) := h.2.2.2.2.2.1
theorem zBo.cl {f : Int → Int} {m : Int} {H Q : Int → Int} {told next : Int} (h : zBo f m H Q told next) : ∀ a k : Int, 0 ≤ a → a < next → 0 ≤ k → k < 2 * m → 0 ≤ zcv f (Q a) k → zcv f (Q a) k ≤ 300 → 0 ≤ H (zcv f (Q a) k) ∧ H (zcv f (Q a) k) ≤ H (Q a) + 1 := h.2.2.2.2.2.2.1
theorem zBo.nx {f : Int → Int} {m : Int} {H Q : Int → Int} {told next : Int} (h : zBo f m H Q told next) : 0 ≤ next ∧ next ≤ told := h.2.2.2.2.2.2.2
def zBi (f : Int → Int) (m : Int) (H Q : Int → Int) (told next i : Int) : Prop := (zBo f m H Q told next) ∧ (next < told) ∧ (∀ k : Int, 0 ≤ k → k < i → 0 ≤ zcv f (Q next) k → zcv f (Q next) k ≤ 300 → 0 ≤ H (zcv f (Q next) k) ∧ H (zcv f (Q next) k) ≤ H (Q next) + 1)
theorem zBi.o {f : Int → Int} {m : Int} {H Q : Int → Int} {told next i : Int} (h : zBi f m H Q told next i) : zBo f m H Q told next := h.1
theorem zBi.lt {f : Int → Int} {m : Int} {H Q : Int → Int} {told next i : Int} (h : zBi f m H Q told next i) : next < told := h.2.1
theorem zBi.cn {f : Int → Int} {m : Int} {H Q : Int → Int} {told next i : Int} (h : zBi f m H Q told next i) : ∀ k : Int, 0 ≤ k → k < i → 0 ≤ zcv f (Q next) k → zcv f (Q next) k ≤ 300 → 0 ≤ H (zcv f (Q next) k) ∧ H (zcv f (Q next) k) ≤ H (Q next) + 1 := h.2.2
theorem zBi_0 {f H Q : Int → Int} {m told next : Int} (h : zBo f m H Q told next) (hl : next < told) : zBi f m H Q told next 0 := ⟨h, hl, fun k k0 k1 => absurd k1 (by omega)⟩
theorem zBi_skip {f H Q : Int → Int} {m told next i : Int} (h : zBi f m H Q told next i) (hv : 0 ≤ zcv f (Q next) i → zcv f (Q next) i ≤ 300 → 0 ≤ H (zcv f (Q next) i)) : zBi f m H Q told next (i + 1) := by
  refine ⟨h.o, h.lt, fun k k0 k1 v0 v1 => ?_⟩
  by_cases hk : k < i
  · exact h.cn k k0 hk v0 v1
  · obtain rfl : k = i := by omega
    have h0 := hv v0 v1
    obtain ⟨a, a0, a1, a2⟩ := h.o.qi _ v0 v1 h0
    refine ⟨h0, ?_⟩
    rw [← a2]
    exact h.o.bd h.lt a a0 a1
theorem zBi_add {f H Q H' Q' : Int → Int} {m told next i v : Int} (h : zBi f m H Q told next i) (i0 : 0 ≤ i) (i1 : i < 2 * m) (ev : v = zcv f (Q next) i) (v0 : 0 ≤ v) (v1 : v ≤ 300) (hv : H v = -1) (eH : ∀ j, H' j = if j = v then H (Q next) + 1 else H j) (eQ : ∀ a, Q' a = if a = told then v else Q a) : zBi f m H' Q' (told + 1) next (i + 1) := by
  obtain ⟨o, lt, cn⟩ := h
  have nx := o.nx
  have K : ∀ a : Int, 0 ≤ a → a < told → Q' a = Q a ∧ H' (Q a) = H (Q a) := fun a a0 a1 => by
    have := (o.qr a a0 a1).2.2
    refine ⟨by rw [eQ, if_neg (by omega)], ?_⟩
    rw [eH, if_neg (fun e => by rw [e, hv] at this; omega)]
  have W : ∀ j : Int, 0 ≤ H j → H' j = H j := fun j hj => by rw [eH, if_neg (fun e => by rw [e, hv] at hj; omega)]
  have T1 : Q' told = v := by rw [eQ, if_pos rfl]
  have T2 : H' v = H (Q next) + 1 := by rw [eH, if_pos rfl]
  obtain ⟨kq, kh⟩ := K next nx.1 lt
  obtain ⟨n0, n1, n2⟩ := o.qr next nx.1 lt
  refine ⟨⟨?_, fun j j0 j1 hj => ?_, fun a b a0 ab bt => ?_, fun _ b b0 bt => ?_, fun j j0 j1 hj => ?_, fun a a0 at' => ?_, fun a k a0 an k0 k1 w0 w1 => ?_, ⟨nx.1, by omega⟩⟩, by omega, fun k k0 ki w0 w1 => ?_⟩
  · rw [W 50 (by rw [o.h50]; decide)]
    exact o.h50
  · by_cases e : j = v
    · obtain ⟨d, hd, ed⟩ := zcv_s (f := f) (u := Q next) i0 i1
      have hs := zcP_s (o.so (Q next) n0 n1 n2) hd
      rw [e, T2, show (H (Q next) + 1).toNat = (H (Q next)).toNat + 1 by omega, ev, ed, show Q next + d - 50 = Q next - 50 + d by omega]
      exact hs
    · rw [eH, if_neg e] at hj ⊢
      exact o.so j j0 j1 hj
  · by_cases hb : b < told
    · rw [(K a a0 (by omega)).1, (K a a0 (by omega)).2, (K b (by omega) hb).1, (K b (by omega) hb).2]
      exact o.mo a b a0 ab hb
    · obtain rfl : b = told := by omega
      rw [T1, T2]
      by_cases ha : a < b
      · rw [(K a a0 ha).1, (K a a0 ha).2]
        exact o.bd lt a a0 ha
      · obtain rfl : a = b := by omega
        rw [T1, T2]
        exact Int.le_refl _
  · rw [kq, kh]
    by_cases hb : b < told
    · rw [(K b b0 hb).1, (K b b0 hb).2]
      exact o.bd lt b b0 hb
    · obtain rfl : b = told := by omega
      rw [T1, T2]
      exact Int.le_refl _
  · by_cases e : j = v
    · exact ⟨told, by omega, by omega, by rw [T1, e]⟩
    · rw [eH, if_neg e] at hj
      obtain ⟨a, a0, a1, a2⟩ := o.qi j j0 j1 hj
      exact ⟨a, a0, by omega, by rw [(K a a0 a1).1, a2]⟩
  · by_cases ha : a < told
    · obtain ⟨b1, b2, b3⟩ := o.qr a a0 ha
      rw [(K a a0 ha).1, (K a a0 ha).2]
      exact ⟨b1, b2, b3⟩
    · obtain rfl : a = told := by omega
      rw [T1, T2]
      exact ⟨v0, v1, by omega⟩
  · obtain ⟨ka, kb⟩ := K a a0 (by omega)
    rw [ka] at w0 w1 ⊢
    obtain ⟨c1, c2⟩ := o.cl a k a0 an k0 k1 w0 w1
    rw [W _ c1, kb]
    exact ⟨c1, c2⟩
  · rw [kq] at w0 w1 ⊢
    rw [kh]
    by_cases hk : k < i
    · obtain ⟨c1, c2⟩ := cn k k0 hk w0 w1
      rw [W _ c1]
      exact ⟨c1, c2⟩
    · obtain rfl : k = i := by omega
      rw [← ev, T2]
      exact ⟨by omega, Int.le_refl _⟩
theorem zBi_end {f H Q : Int → Int} {m told next i : Int} (h : zBi f m H Q told next i) (hi : 2 * m ≤ i) : zBo f m H Q told (next + 1) := by
  obtain ⟨o, lt, cn⟩ := h
  have nx := o.nx
  refine ⟨o.h50, o.so, o.mo, fun hl b b0 bt => ?_, o.qi, o.qr, fun a k a0 an k0 k1 w0 w1 => ?_, ⟨by omega, by omega⟩⟩
  · have e1 := o.bd lt b b0 bt
    have e2 := o.mo next (next + 1) nx.1 (by omega) hl
    omega
  · by_cases ha : a < next
    · exact o.cl a k a0 ha k0 k1 w0 w1
    · obtain rfl : a = next := by omega
      exact cn k k0 (by omega) w0 w1
theorem zBo_0 {f H Q : Int → Int} {m : Int} (h0 : ∀ j : Int, 0 ≤ j → j ≤ 300 → H j = if j = 50 then 0 else -1) (hQ : Q 0 = 50) : zBo f m H Q 1 0 := by
  have h50 : H 50 = 0 := h0 50 (by decide) (by decide)
  refine ⟨h50, fun j j0 j1 hj => ?_, fun a b a0 ab b1 => ?_, fun _ b b0 b1 => ?_, fun j j0 j1 hj => ?_, fun a a0 a1 => ?_, fun a k a0 an => absurd an (by omega), ⟨by decide, by decide⟩⟩
  · by_cases e : j = 50
    · rw [e, h50]
      exact zcP_0
    · rw [h0 j j0 j1, if_neg e] at hj
      omega
  · obtain rfl : a = 0 := by omega
    obtain rfl : b = 0 := by omega
    exact Int.le_refl _
  · obtain rfl : b = 0 := by omega
    omega
  · by_cases e : j = 50
    · exact ⟨0, by decide, by decide, by rw [hQ, e]⟩
    · rw [h0 j j0 j1, if_neg e] at hj
      omega
  · obtain rfl : a = 0 := by omega
    rw [hQ, h50]
    decide
theorem zBo_ch {f H Q : Int → Int} {m told next : Int} (o : zBo f m H Q told next) (he : told ≤ next) : ∀ (n : Nat) (s : Int), zcF f m (-50) 250 n s → (-50 ≤ s ∧ s ≤ 250) ∧ 0 ≤ H (50 + s) ∧ H (50 + s) ≤ n
  | 0, s, h => by
    have h : s = 0 := h
    rw [h, show (50 : Int) + 0 = 50 by decide, o.h50]
    decide
  | n + 1, s, ⟨hb, d, hd, hF⟩ => by
    obtain ⟨r0, r1, r2⟩ := zBo_ch o he n (s - d) hF
    obtain ⟨a, a0, a1, a2⟩ := o.qi (50 + (s - d)) (by omega) (by omega) r1
    obtain ⟨k, k0, k1, kv⟩ := zcv_o (f := f) (u := Q a) hd
    have kv' : zcv f (Q a) k = 50 + s := by rw [kv, a2]; omega
    have hc := o.cl a k a0 (by omega) k0 k1 (by rw [kv']; omega) (by rw [kv']; omega)
    rw [kv', a2] at hc
    exact ⟨hb, hc.1, by have := hc.2; omega⟩
/-- the class's answer -/
def zcAn (f : Int → Int) (m p x : Int) : Prop := (x = -1 ∧ ∀ n : Nat, ¬ zcP f m n p) ∨ (0 ≤ x ∧ x ≤ 300 ∧ zcP f m x.toNat p ∧ ∀ n : Nat, zcP f m n p → x ≤ n)
theorem zBo_fin {f H Q : Int → Int} {m told next p : Int} (hf : ∀ i : Int, 0 ≤ i → i < m → 0 ≤ f i ∧ f i ≤ 50) (o : zBo f m H Q told next) (he : told ≤ next) (hp : 0 ≤ p ∧ p ≤ 200) (hH : -1 ≤ H (50 + p) ∧ H (50 + p) ≤ 300) : zcAn f m p (H (50 + p)) := by
  have key : ∀ n : Nat, zcP f m n p → 0 ≤ H (50 + p) ∧ H (50 + p) ≤ n := fun n h => (zBo_ch o he n p (zcR0 hf hp h)).2
  by_cases h : 0 ≤ H (50 + p)
  · have hs := o.so (50 + p) (by omega) (by omega) h
    rw [show 50 + p - 50 = p by omega] at hs
    exact Or.inr ⟨h, hH.2, hs, fun n hn => (key n hn).2⟩
  · exact Or.inl ⟨by omega, fun n hn => h (key n hn).1⟩
/-! the table that is made better until nothing gets better -/
/-- of a place k and a coin c nothing gets better -/
def zgA1 (f G : Int → Int) (k c : Int) : Prop := (0 ≤ k - f c → G k ≤ G (k - f c) + 1) ∧ (k + f c < 321 → G k ≤ G (k + f c) + 1)
def zgA2 (f : Int → Int) (m : Int) (G : Int → Int) (k c : Int) : Prop := (∀ k' : Int, 0 ≤ k' → k' < k → ∀ c' : Int, 0 ≤ c' → c' < m → zgA1 f G k' c') ∧ ∀ c' : Int, 0 ≤ c' → c' < c → zgA1 f G k c'
/-- every number in the table can be given so -/
def zgA0 (f : Int → Int) (m : Int) (G : Int → Int) : Prop := G 60 ≤ 0 ∧ ∀ j : Int, 0 ≤ j → j < 321 → G j < 100000000 → 0 ≤ G j ∧ zcP f m (G j).toNat (j - 60)
theorem zgA2_0 {f G : Int → Int} {m : Int} : zgA2 f m G 0 0 := ⟨fun k a b => absurd b (by omega), fun c a b => absurd b (by omega)⟩
theorem zgA2_c {f G : Int → Int} {m k c : Int} (h : zgA2 f m G k c) (h1 : zgA1 f G k c) : zgA2 f m G k (c + 1) := ⟨h.1, fun c' a b => by
  by_cases e : c' < c
  · exact h.2 c' a e
  · obtain rfl : c' = c := by omega
    exact h1⟩
theorem zgA2_k {f G : Int → Int} {m k c : Int} (h : zgA2 f m G k c) (hc : m ≤ c) : zgA2 f m G (k + 1) 0 := ⟨fun k' a b c' c0 c1 => by
  by_cases e : k' < k
  · exact h.1 k' a e c' c0 c1
  · obtain rfl : k' = k := by omega
    exact h.2 c' c0 (by omega), fun c a b => absurd b (by omega)⟩
theorem zgA0_up {f G G' : Int → Int} {m k c x : Int} (h : zgA0 f m G) (k0 : 0 ≤ k) (k1 : k < 321) (c0 : 0 ≤ c) (c1 : c < m) (eG : ∀ j, G' j = if j = k then x else G j) (hx : x < G k) (hb : ∀ j : Int, 0 ≤ j → j < 321 → 0 ≤ G j ∧ G j ≤ 100000000) (hw : ∃ y, x = y + 1 ∧ (y = 100000000 ∨ (0 ≤ k - f c ∧ y = G (k - f c)) ∨ (k + f c < 321 ∧ y = G (k + f c)))) (hf : 0 ≤ f c) : zgA0 f m G' := by
  have hk := hb k k0 k1
  obtain ⟨y, e, hy⟩ := hw
  refine ⟨?_, fun j j0 j1 hj => ?_⟩
  · rw [eG]
    split
    · rename_i e6
      have := h.1
      rw [e6] at this
      omega
    · exact h.1
  · rw [eG] at hj ⊢
    split
    · rename_i ej
      rw [if_pos ej] at hj
      rcases hy with hy | ⟨a, hy⟩ | ⟨a, hy⟩
      · omega
      · obtain ⟨g0, g1⟩ := h.2 (k - f c) a (by omega) (by omega)
        have := zcP_s (d := f c) g1 ⟨c, c0, c1, Or.inl rfl⟩
        rw [e, hy, ej, show (G (k - f c) + 1).toNat = (G (k - f c)).toNat + 1 by omega, show k - 60 = k - f c - 60 + f c by omega]
        exact ⟨by omega, this⟩
      · obtain ⟨g0, g1⟩ := h.2 (k + f c) (by omega) a (by omega)
        have := zcP_s (d := - f c) g1 ⟨c, c0, c1, Or.inr rfl⟩
        rw [e, hy, ej, show (G (k + f c) + 1).toNat = (G (k + f c)).toNat + 1 by omega, show k - 60 = k + f c - 60 + - f c by omega]
        exact ⟨by omega, this⟩
    · rename_i ej
      rw [if_neg ej] at hj
      exact h.2 j j0 j1 hj
theorem zgA_ch {f G : Int → Int} {m : Int} (h0 : G 60 ≤ 0) (hc : zgA2 f m G 321 0) : ∀ (n : Nat) (s : Int), zcF f m (-60) 260 n s → (-60 ≤ s ∧ s ≤ 260) ∧ G (60 + s) ≤ n
  | 0, s, h => by
    have h : s = 0 := h
    rw [h, show (60 : Int) + 0 = 60 by decide]
    exact ⟨by decide, h0⟩
  | n + 1, s, ⟨hb, d, ⟨c, c0, c1, e⟩, hF⟩ => by
    obtain ⟨r0, r1⟩ := zgA_ch h0 hc n (s - d) hF
    refine ⟨hb, ?_⟩
    have hg := hc.1 (60 + s) (by omega) (by omega) c c0 c1
    rcases e with e | e
    · have := hg.1 (by omega)
      rw [show 60 + s - f c = 60 + (s - d) by omega] at this
      omega
    · have := hg.2 (by omega)
      rw [show 60 + s + f c = 60 + (s - d) by omega] at this
      omega
/-- the reference's answer -/
def zcC (f : Int → Int) (m p x : Int) : Prop := (x = -1 ∧ ∀ n : Nat, (n : Int) < 100000000 → ¬ zcP f m n p) ∨ (0 ≤ x ∧ zcP f m x.toNat p ∧ ∀ n : Nat, zcP f m n p → x ≤ n)
theorem zgA_fin {f G : Int → Int} {m p : Int} (hf : ∀ i : Int, 0 ≤ i → i < m → 0 ≤ f i ∧ f i ≤ 50) (h : zgA0 f m G) (hc : zgA2 f m G 321 0) (hp : 0 ≤ p ∧ p ≤ 200) : zcC f m p (if G (60 + p) < 100000000 then G (60 + p) else -1) := by
  have key : ∀ n : Nat, zcP f m n p → G (60 + p) ≤ n := fun n hn => (zgA_ch h.1 hc n p (zcF_mono (by decide) (by decide) n p (zcR0 hf hp hn))).2
  split
  · rename_i hl
    obtain ⟨g0, g1⟩ := h.2 (60 + p) (by omega) (by omega) hl
    rw [show 60 + p - 60 = p by omega] at g1
    exact Or.inr ⟨g0, g1, key⟩
  · exact Or.inl ⟨rfl, fun n hn hP => by have := key n hP; omega⟩
theorem zc_eq {f g : Int → Int} {m p x y : Int} (h : ∀ i : Int, 0 ≤ i → i < m → f i = g i) (hx : zcAn f m p x) (hy : zcC g m p y) : x = y := by
  have k1 : ∀ n : Nat, zcP g m n p → zcP f m n p := fun n hn => zcP_cg (fun i i0 i1 => (h i i0 i1).symm) hn
  have k2 : ∀ n : Nat, zcP f m n p → zcP g m n p := fun n hn => zcP_cg h hn
  rcases hx with ⟨ex, nx⟩ | ⟨x0, x1, x2, x3⟩
  · rcases hy with ⟨ey, -⟩ | ⟨-, y1, -⟩
    · omega
    · exact absurd (k1 _ y1) (nx _)
  · rcases hy with ⟨-, ny⟩ | ⟨y0, y1, y2⟩
    · exact absurd (k2 _ x2) (ny _ (by omega))
    · have e1 := x3 _ (k1 _ y1)
      have e2 := y2 _ (k2 _ x2)
      omega
/-! in how many ways -/
def zwx (co : Int) (R : Int → Int) : Nat → Int → Int
  | 0, j => R j
  | n + 1, j => if j < co then R j else pm_w32 (R j + zwx co R n (j - co))
theorem zc_and : ∀ i : Nat, i < 13 → pm_and (i : Int) 1 = (i : Int) % 2 := by decide +kernel
theorem zwx_fu {co : Int} {R : Int → Int} (hc : 1 ≤ co) : ∀ (n : Nat) (j : Int), j.toNat ≤ n → ∀ n' : Nat, j.toNat ≤ n' → zwx co R n j = zwx co R n' j
  | 0, j, h, n', _ => by
    cases n' with
    | zero => rfl
    | succ n' =>
      show R j = if j < co then R j else _
      rw [if_pos (by omega)]
  | n + 1, j, h, n', h' => by
    cases n' with
    | zero =>
      show (if j < co then R j else _) = R j
      rw [if_pos (by omega)]
    | succ n' =>
      show (if j < co then R j else pm_w32 (R j + zwx co R n (j - co))) = if j < co then R j else pm_w32 (R j + zwx co R n' (j - co))
      by_cases e : j < co
      · rw [if_pos e, if_pos e]
      · rw [if_neg e, if_neg e, zwx_fu hc n (j - co) (by omega) n' (by omega)]
def zwi (co : Int) (R : Int → Int) (j : Int) : Int := zwx co R j.toNat j
theorem zwi_l {co : Int} {R : Int → Int} {j : Int} (hc : 1 ≤ co) (h : j < co) : zwi co R j = R j := by
  unfold zwi
  rw [zwx_fu hc j.toNat j (Nat.le_refl _) (j.toNat + 1) (by omega)]
  exact if_pos h
theorem zwi_g {co : Int} {R : Int → Int} {j : Int} (hc : 1 ≤ co) (h : co ≤ j) : zwi co R j = pm_w32 (R j + zwi co R (j - co)) := by
  unfold zwi
  rw [zwx_fu hc j.toNat j (Nat.le_refl _) (j.toNat + 1) (by omega)]
  show (if j < co then R j else pm_w32 (R j + zwx co R j.toNat (j - co))) = _
  rw [if_neg (by omega), zwx_fu hc j.toNat (j - co) (by omega) (j - co).toNat (Nat.le_refl _)]
/-- the ways with the first c coins -/
def zwy (f : Int → Int) : Nat → Int → Int
  | 0, j => if j = 0 then 1 else 0
  | c + 1, j => zwi (f (c : Int)) (zwy f c) j
theorem zwx_cg {co : Int} {R R' : Int → Int} (h : ∀ j, R j = R' j) : ∀ (n : Nat) (j : Int), zwx co R n j = zwx co R' n j
  | 0, j => h j
  | n + 1, j => by
    show (if j < co then R j else pm_w32 (R j + zwx co R n (j - co))) = if j < co then R' j else pm_w32 (R' j + zwx co R' n (j - co))
    rw [h j, zwx_cg h n]
theorem zwy_cg {f g : Int → Int} : ∀ (c : Nat), (∀ i : Int, 0 ≤ i → i < c → f i = g i) → ∀ j, zwy f c j = zwy g c j
  | 0, _, _ => rfl
  | c + 1, h, j => by
    show zwi (f (c : Int)) (zwy f c) j = zwi (g (c : Int)) (zwy g c) j
    rw [h (c : Int) (by omega) (by omega)]
    exact zwx_cg (zwy_cg c (fun i i0 i1 => h i i0 (by omega))) _ _
/-- a row in the midst of the c-th coin: the new ways below k, the old ones from there to p -/
def zwm (f R : Int → Int) (c : Nat) (k p : Int) : Prop := (∀ j : Int, 0 ≤ j → j < k → j ≤ p → R j = zwy f (c + 1) j) ∧ ∀ j : Int, k ≤ j → 0 ≤ j → j ≤ p → R j = zwy f c j
/-- a row with the ways of c coins -/
def zcwr (f R : Int → Int) (c : Nat) (p : Int) : Prop := ∀ j : Int, 0 ≤ j → j ≤ p → R j = zwy f c j
theorem zwm_0 {f R : Int → Int} {c : Nat} {co p : Int} (h : zcwr f R c p) (hc : 1 ≤ co) (e : f (c : Int) = co) : zwm f R c co p := ⟨fun j j0 j1 j2 => by
  show R j = zwi (f (c : Int)) (zwy f c) j
  rw [e, zwi_l hc j1]
  exact h j j0 j2, fun j _ j0 j1 => h j j0 j1⟩
theorem zwm_s {f R R' : Int → Int} {c : Nat} {k co p : Int} (h : zwm f R c k p) (hc : 1 ≤ co) (e : f (c : Int) = co) (hk : co ≤ k) (kp : k ≤ p) (eR : ∀ j, R' j = if j = k then pm_w32 (R k + R (k - co)) else R j) : zwm f R' c (k + 1) p := by
  refine ⟨fun j j0 j1 j2 => ?_, fun j jk j0 j1 => ?_⟩
  · rw [eR]
    split
    · rename_i ej
      show _ = zwi (f (c : Int)) (zwy f c) j
      rw [e, ej, zwi_g hc hk, h.2 k (Int.le_refl _) (by omega) kp, h.1 (k - co) (by omega) (by omega) (by omega)]
      show _ = pm_w32 (zwy f c k + zwi co (zwy f c) (k - co))
      show pm_w32 (zwy f c k + zwi (f (c : Int)) (zwy f c) (k - co)) = _
      rw [e]
    · exact h.1 j j0 (by omega) j2
  · rw [eR, if_neg (by omega)]
    exact h.2 j (by omega) j0 j1
theorem zwm_e {f R : Int → Int} {c : Nat} {k p : Int} (h : zwm f R c k p) (hk : p < k) : zcwr f R (c + 1) p := fun j j0 j1 => h.1 j j0 (by omega) j1
theorem zcwr_0 {f R : Int → Int} {p : Int} (h : ∀ j : Int, 0 ≤ j → j ≤ p → R j = if j = 0 then 1 else 0) : zcwr f R 0 p := h
theorem zgA0_i {f G : Int → Int} {m : Int} (h : ∀ j : Int, 0 ≤ j → j < 321 → G j = if j = 60 then 0 else 100000000) : zgA0 f m G := by
  refine ⟨by rw [h 60 (by decide) (by decide)]; decide, fun j j0 j1 hj => ?_⟩
  rw [h j j0 j1] at hj ⊢
  by_cases e : j = 60
  · rw [if_pos e, e]
    exact ⟨by decide, zcP_0⟩
  · rw [if_neg e] at hj
    omega
/-- PAYS, the class's answer and the reference's -/
def zpA (f : Int → Int) (m p w x : Int) : Prop := (¬ (0 ≤ p ∧ p ≤ 200) ∧ x = -1) ∨ ((0 ≤ p ∧ p ≤ 200) ∧ ((w = 0 ∧ zcAn f m p x) ∨ (w = 1 ∧ x = zwy f m.toNat p) ∨ (w ≠ 0 ∧ w ≠ 1 ∧ x = -1)))
def zpC (f : Int → Int) (m p w x : Int) : Prop := (¬ ((0 ≤ p ∧ p ≤ 200) ∧ 0 ≤ w ∧ w ≤ 1) ∧ x = -1) ∨ ((0 ≤ p ∧ p ≤ 200) ∧ ((w = 0 ∧ zcC f m p x) ∨ (w = 1 ∧ x = zwy f m.toNat p)))
theorem zp_eq {f g : Int → Int} {m p w x y : Int} (m0 : 0 ≤ m) (h : ∀ i : Int, 0 ≤ i → i < m → f i = g i) (hx : zpA f m p w x) (hy : zpC g m p w y) : x = y := by
  rcases hx with ⟨a, e⟩ | ⟨a, ⟨b, c⟩ | ⟨b, c⟩ | ⟨b, b', c⟩⟩ <;> rcases hy with ⟨a', e'⟩ | ⟨a', ⟨b2, c2⟩ | ⟨b2, c2⟩⟩
  · omega
  · omega
  · omega
  · omega
  · exact zc_eq h c c2
  · omega
  · omega
  · omega
  · rw [c, c2]
    exact zwy_cg _ (fun i i0 i1 => h i i0 (by omega)) p
  · omega
  · omega
  · omega
section PDU
variable {D : va_G} {Wm : Nat} {ST : List (String × String × String × Nat)} {b0 : sx_B} {l : Launch} {Sg : Nat → Option Nat} {M : sx_Me} {bud : sx_Bu} {X : Nat → List pm_V → List pm_V → pm_Mem → Prop} {pc : Nat} {lv st : List pm_V} {μ : pm_Mem} {d : sx_Da}
theorem zp_dup2 (hK : zKK ST) (hm : pm_m zMT zCDs M d) {x y : Int} (h : sx_row M.2.1 pc = some (pc, .dup2, 1)) (kk : zW D Wm ST b0 l Sg M bud X (pc + 1) lv ((0, x) :: (2, y) :: (0, x) :: (2, y) :: st) μ) : zW D Wm ST b0 l Sg M bud X pc lv ((0, x) :: (2, y) :: st) μ := by
  intro p e R s m args below meth c Q H locs ls stk hF hP K
  obtain ⟨hx, hb, -, -, -⟩ := id hF.1
  obtain ⟨hH, hM, hV, hL, hS⟩ := hP
  obtain ⟨v, t, rfl, k1, k2⟩ := pm_S_cons hS
  obtain ⟨w, t2, rfl, k3, k4⟩ := pm_S_cons k2
  obtain ⟨a, rfl, ha⟩ := pm_v_int k1 rfl
  obtain ⟨q, rfl, hq⟩ := pm_v_ref k3 rfl
  refine lv_dup2_11 hx hb (pm_row hK hm h) rfl rfl ?_
  exact kk p e R s m args below meth c Q H locs ls _ hF ⟨hH, hM, hV, hL, ⟨k1, k3, k1, k3, k4⟩⟩ K
end PDU
