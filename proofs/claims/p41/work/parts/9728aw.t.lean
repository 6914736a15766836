/-! F: a text told anew on both sides leaves both worlds alike -/
set_option maxRecDepth 100000 in
theorem fzs213 : zck 213 0 2 (0) (16) = true := by decide +kernel
set_option maxRecDepth 100000 in
theorem fzs215 : zck 215 0 48 (0) (400) = true := by decide +kernel
set_option maxRecDepth 100000 in
theorem fzs216 : zck 216 0 48 (0) (400) = true := by decide +kernel
set_option maxRecDepth 100000 in
theorem fzs217 : zck 217 0 48 (0) (400) = true := by decide +kernel
theorem fz_lb_T {μ : pm_Mem} (hT : zTJ none μ) (h37 : μ 26 2 = μ 205 37) : fz_lb μ := by
  refine ⟨⟨(zT_get hT fzs213 (i := 0) (by decide) (by decide)).2, fun k k0 k1 => ?_⟩, h37⟩
  have a := zT_get hT fzs215 (i := k) (by omega) (by omega)
  have b := zT_get hT fzs216 (i := k) (by omega) (by omega)
  have c := zT_get hT fzs217 (i := k) (by omega) (by omega)
  exact ⟨a.1, b.1, b.2, c.2⟩
/-- THE LAW told on both sides: its lines from the d-th last on -/
theorem fz_law {K V : Int → Int} {J : Nat → Int} {t : Nat} {C D : Int → Int} {μ : pm_Mem} (hc : zCeL K V J C D t) (hr : zLr K V J 0 0 400 μ t) (h13 : μ 213 0 = ((t : Nat) : Int)) : ∀ d : Nat, d ≤ t → ∃ R, fr_L μ ((t : Int) - (d : Int)) R ∧ fc_L ((t : Nat) : Int) C D ((t : Int) - (d : Int)) R
  | 0, _ => ⟨[], by show (t : Int) - ((0 : Nat) : Int) = μ 213 0; rw [h13]; omega, by show (t : Int) - ((0 : Nat) : Int) = ((t : Nat) : Int); omega⟩
  | d + 1, hd => by
    obtain ⟨R, h1, h2⟩ := fz_law hc hr h13 d (by omega)
    obtain ⟨cl, hcl, hc'⟩ := hc
    obtain ⟨s, hs⟩ : ∃ s : Nat, s = t - (d + 1) := ⟨_, rfl⟩
    have es : (t : Int) - ((d + 1 : Nat) : Int) = (s : Int) := by omega
    have es2 : (t : Int) - (d : Int) = (s : Int) + 1 := by omega
    rw [es2] at h1 h2
    rw [es]
    obtain ⟨E, B, q, a0, a1, a2, a3, a4, a5, a6⟩ := hc' s (by omega)
    obtain ⟨E', B', q', b0, b1, b2, b3, b4, b5, b6⟩ := hr s (by omega)
    obtain ⟨-, -, e⟩ := zPa0_det a0 b0
    obtain ⟨rfl, rfl⟩ := e rfl
    obtain ⟨t1, t2⟩ := zPa0_t a0
    have hln : fv_ln (K (J s) - 300, E, B) := ⟨t1, t2.imp id (fun h => h.2)⟩
    rw [Int.zero_add] at b1 b2 b3 b4 b5 b6
    rw [Int.zero_add] at b6
    refine ⟨(K (J s) - 300, E, B) :: R, ?_, ?_⟩
    · rw [fr_L_c]
      have k2 := zSr_r b6
      rw [← b3] at k2
      exact ⟨by omega, b1, ⟨zSr_l b6, b3.symm⟩, ⟨k2, by show μ 216 (s : Int) + ((zXp B).length : Int) = μ 217 (s : Int); omega⟩, hln, h1⟩
    · rw [fc_L_c]
      have k2 := zSg_r a6
      rw [← a3] at k2
      refine ⟨by omega, by show C ((s : Int) * 4 + 0) = K (J s) - 300 + 300; omega, ⟨a2, zSg_l a6, a3.symm⟩, ⟨k2, by show C ((s : Int) * 4 + 2) + (B.length : Int) = C ((s : Int) * 4 + 3); omega⟩, by omega, hln, h2⟩
/-- THE ROUNDS, THE CALENDAR of their kinds -/
theorem fz_pa1 {K V : Int → Int} {sh cu j p : Int} (h : zPa1 K V sh cu j 0 p) : (0 ≤ V j ∧ V j ≤ cu - 1) ∧ (0 ≤ V (j + 2) ∧ V (j + 2) ≤ 11) ∧ (K (j + 3) ≠ 321 → 0 ≤ V (j + 4) ∧ V (j + 4) ≤ sh - 1) := by
  unfold zPa1 at h
  rcases h with ⟨h, -⟩ | ⟨h, -⟩ | ⟨⟨-, a⟩, h⟩
  · omega
  · omega
  · rcases h with ⟨h, -⟩ | ⟨-, h⟩
    · omega
    · rcases h with ⟨h, -⟩ | ⟨h, -⟩ | ⟨⟨-, b⟩, h⟩
      · omega
      · omega
      · refine ⟨a, b, fun hk => ?_⟩
        rcases h with ⟨-, -, h⟩ | ⟨h, -⟩ | ⟨-, h⟩
        · exact absurd h hk
        · omega
        · rcases h with ⟨h, -⟩ | ⟨h, -⟩ | ⟨-, -, -, c⟩
          · omega
          · omega
          · exact c
theorem fz_pa2 {K V : Int → Int} {sh cu j p o : Int} (h : zPa2 K V sh cu j 0 p) (hk : zkd o (K (j + 1))) (hsh : sh ≤ 12) (hcu : cu ≤ 18) : fa_dk sh cu o (V (j + 2)) (V (j + 3)) := by
  have key : (K (j + 1) = 324 → (0 ≤ V (j + 2) ∧ V (j + 2) ≤ cu - 1)) ∧ (K (j + 1) ≠ 324 → (0 ≤ V (j + 2) ∧ V (j + 2) ≤ sh - 1)) ∧ (K (j + 1) = 323 → 0 ≤ V (j + 3) ∧ V (j + 3) ≤ 99) ∧ (K (j + 1) = 306 → 0 ≤ V (j + 3) ∧ V (j + 3) ≤ 99) ∧ (K (j + 1) = 324 → 0 ≤ V (j + 3) ∧ V (j + 3) ≤ 999) ∧ (K (j + 1) = 325 → 0 ≤ V (j + 3) ∧ V (j + 3) ≤ cu - 1) := by
    unfold zPa2 at h
    rcases h with ⟨h, -⟩ | ⟨h, -⟩ | ⟨-, h⟩
    · omega
    · omega
    · rcases h with ⟨h, -⟩ | ⟨-, h⟩
      · omega
      · rcases h with ⟨h, -⟩ | ⟨h, -⟩ | ⟨⟨-, a, b, c⟩, h⟩
        · omega
        · omega
        · rcases h with ⟨h, -⟩ | ⟨h, -⟩ | ⟨-, -, -, h⟩
          · omega
          · omega
          · refine ⟨fun k => ⟨a, b k⟩, fun k => ⟨a, c k⟩, fun k => ?_, fun k => ?_, fun k => ?_, fun k => ?_⟩
            · rcases h with h | h | h | h <;> omega
            · rcases h with h | h | h | h <;> omega
            · rcases h with h | h | h | h <;> omega
            · rcases h with h | h | h | h <;> omega
  obtain ⟨k1, k2, k3, k4, k5, k6⟩ := key
  clear h
  rcases hk with ⟨h1, h2⟩ | ⟨h1, h2⟩ | ⟨h1, h2⟩ | ⟨h1, h2⟩
  · have a := k2 (by omega)
    have b := k3 h2
    exact ⟨fun _ => ⟨⟨by omega, by omega⟩, by omega, by omega⟩, fun c => by omega, fun c => by omega, fun c => absurd h1 c⟩
  · have a := k2 (by omega)
    have b := k4 h2
    exact ⟨fun c => by omega, fun _ => ⟨⟨by omega, by omega⟩, by omega, by omega⟩, fun c => by omega, fun _ c => absurd h1 c⟩
  · have a := k1 h2
    have b := k5 h2
    exact ⟨fun c => by omega, fun c => by omega, fun _ => ⟨⟨by omega, by omega⟩, by omega, by omega⟩, fun _ _ c => absurd h1 c⟩
  · have a := k2 (by omega)
    have b := k6 h2
    exact ⟨fun c => by omega, fun c => by omega, fun c => by omega, fun _ _ _ => ⟨⟨by omega, by omega⟩, by omega, by omega⟩⟩
theorem fz_li0 {P : Int → Int → Int → Prop} {K : Int → Int} {kw ln j q : Int} (h : zLi0 P K kw ln j 0 q) : ∃ p, P (j + 1) 0 p := by
  rcases h with ⟨h, -⟩ | ⟨h, -⟩ | ⟨-, -, g, p, hP, h⟩
  · omega
  · omega
  · rcases h with ⟨h1, h2, -⟩ | ⟨-, h, -⟩ | ⟨h, -⟩
    · omega
    · omega
    · exact ⟨p, by rw [← h]; exact hP⟩
theorem fz_cR {K V : Int → Int} {J : Nat → Int} {t : Nat} {n m rn ln : Int} {C : Int → Int} {μ : pm_Mem} (hx : zTxo (zLi0 (zPa1 K V n m) K 318) K J t 0 0) (ht : t ≤ 16) (hc : zCe1 K V J C t) (hr : zcTn K V J t μ) (h1 : ln = ((t : Nat) : Int)) (h2 : rn = ((t : Nat) : Int)) (hn : 0 ≤ n ∧ n ≤ 12) (hm : 0 ≤ m ∧ m ≤ 18) : fa_cR n m rn ln C (μ 221) := by
  subst h1
  refine ⟨h2.symm, by omega, fun k k0 k1 => ?_, fun k k0 k1 => ?_⟩
  all_goals
    obtain ⟨s, rfl⟩ : ∃ s : Nat, k = (s : Int) := ⟨k.toNat, by omega⟩
    obtain ⟨a1, a2, a3⟩ := hc s (by omega)
    obtain ⟨b1, b2, b3⟩ := hr s (by omega)
  · refine ⟨by rw [a1, b1], by rw [a2, b2], ?_⟩
    rw [a3, b3]
    split <;> omega
  · obtain ⟨p, hp⟩ := fz_li0 (hx.1.2 s (by omega))
    obtain ⟨c1, c2, c3⟩ := fz_pa1 hp
    rw [show J s + 1 + 2 = J s + 3 by omega] at c2
    rw [show J s + 1 + 3 = J s + 4 by omega, show J s + 1 + 4 = J s + 5 by omega] at c3
    rw [b1, b2, b3]
    refine ⟨⟨by omega, by omega⟩, c2, ?_⟩
    split
    · omega
    · rename_i hk
      have := c3 hk
      omega
theorem fz_cD {K V : Int → Int} {J : Nat → Int} {t : Nat} {n m dn ln : Int} {C : Int → Int} {μ : pm_Mem} (hx : zTxo (zLi0 (zPa2 K V n m) K 322) K J t 0 0) (ht : t ≤ 16) (hc : zCe2 K V J C t) (hr : zcDn K V J t μ) (h1 : ln = ((t : Nat) : Int)) (h2 : dn = ((t : Nat) : Int)) (hn : 0 ≤ n ∧ n ≤ 12) (hm : 0 ≤ m ∧ m ≤ 18) : fa_cD n m dn ln C (μ 222) := by
  subst h1
  refine ⟨h2.symm, by omega, fun k k0 k1 => ?_, fun k k0 k1 => ?_⟩
  all_goals
    obtain ⟨s, rfl⟩ : ∃ s : Nat, k = (s : Int) := ⟨k.toNat, by omega⟩
    obtain ⟨a1, a2, a3, a4⟩ := hc s (by omega)
    obtain ⟨b1, b2, b3, b4⟩ := hr s (by omega)
  · exact ⟨by rw [a1, b1], by rw [a2]; exact b2, by rw [a3, b3], by rw [a4, b4]⟩
  · obtain ⟨p, hp⟩ := fz_li0 (hx.1.2 s (by omega))
    have b2' : zkd (μ 222 (4 * (s : Int) + 1)) (K (J s + 1 + 1)) := by rw [show J s + 1 + 1 = J s + 2 by omega]; exact b2
    have c := fz_pa2 hp b2' hn.2 hm.2
    rw [show J s + 1 + 2 = J s + 3 by omega, show J s + 1 + 3 = J s + 4 by omega] at c
    rw [b3, b4]
    exact c
theorem fr_L_y {μ μ' : pm_Mem} (hb : fz_lb μ) (e0 : μ' 213 0 = μ 213 0) (e : zMy μ μ') : ∀ {R : List (Int × List zIw × List zIw)} {k : Int}, 0 ≤ k → fr_L μ k R → fr_L μ' k R
  | [], k, _, h => by
    have h1 : k = μ 213 0 := h
    show k = μ' 213 0
    rw [e0]
    exact h1
  | x :: R, k, k0, h => by
    rw [fr_L_c] at h
    obtain ⟨h1, h2, ⟨h3, h4⟩, ⟨h5, h6⟩, h7, h8⟩ := h
    have hk : k < 16 := by have := hb.1.1; omega
    obtain ⟨b1, b2, b3, b4⟩ := hb.1.2 k k0 hk
    obtain ⟨e4, e5, e6, e7⟩ := e.1 k (by omega)
    rw [fr_L_c, e0, e4, e5, e6, e7]
    exact ⟨h1, h2, ⟨zSr_cg h3 (fun i i0 i1 => e.2 i (by omega)), h4⟩, ⟨zSr_cg h5 (fun i i0 i1 => e.2 i (by omega)), h6⟩, h7, fr_L_y hb e0 e (by omega) h8⟩
theorem zRF_text {k x : Int} {μ μ1 μ2 : pm_Mem} (hR : zRF μ) (hc : zTxF k μ x μ1) (he : zTxe μ μ1 μ2) (h5 : μ2 205 5 = μ1 205 5) (hj : ∃ j : Int, zTxH j μ μ1 μ2) (hT2 : zTJ none μ2) : zRF μ2 := by
  have hT := zRT_text (zRT_F hR) (zTxF_c hc) he
  obtain ⟨⟨z1, z2, z3⟩, hE, hW, hK, hI, h50⟩ := hR
  obtain ⟨-, hf, h96, -⟩ := hc
  obtain ⟨j, ⟨f1, f2, f3, f4, f5⟩, ⟨u1, u2⟩, hN⟩ := hj
  obtain ⟨-, g1, g2, -, -⟩ := he
  -- the class's rows but for the texts; the reference's
  have a : ∀ q : Nat, (q < 17 ∨ 28 < q) → (q < 88 ∨ q = 89 ∨ 96 < q) → μ1 q = μ q := fun q h1 h2 => by
    by_cases hk : k < 0 ∨ 3 < k
    · exact hf q (by omega) h2
    · exact hf q (by omega) h2
  have b : ∀ q : Nat, q ≠ 205 → (q < 213 ∨ 223 < q) → μ2 q = μ1 q := g1
  have c : ∀ q : Nat, (q < 17 ∨ 28 < q) → (q < 88 ∨ q = 89 ∨ 96 < q) → q ≠ 205 → (q < 213 ∨ 223 < q) → μ2 q = μ q := fun q h1 h2 h3 h4 => (b q h3 h4).trans (a q h1 h2)
  have a205 : μ1 205 = μ 205 := a 205 (by omega) (by omega)
  have d6 : μ2 205 6 = μ 205 6 := (g2 6 (by omega)).trans (by rw [a205])
  have d7 : μ2 205 7 = μ 205 7 := (g2 7 (by omega)).trans (by rw [a205])
  have e6 : μ 3 0 = μ 205 6 := hW.1.1.1.1
  have e7 : μ 3 1 = μ 205 7 := hW.1.1.1.2.1
  have hq := hW.2.2.2.1
  -- fields and rows of the texts that stay
  have cx : ∀ q : Nat, 17 ≤ q → q ≤ 28 → ((q : Int) < 17 + 3 * j ∨ 19 + 3 * j < (q : Int)) → μ2 q = μ q := fun q h1 h2 h3 => (b q (by omega) (by omega)).trans (f1 q h1 h2 h3)
  have h37 : μ2 26 2 = μ2 205 37 := by
    by_cases h3 : j = 3
    · obtain ⟨K, V, J, t, -, -, n1, -, -, -, n5⟩ := hN (by omega)
      rw [b 26 (by decide) (by decide), (n1.2.2.2 h3).2, n5 h3]
    · rw [cx 26 (by decide) (by decide) (by omega), f5 h3, a205]
      exact hW.2.2.2.2.1.2
  have hlb := fz_lb_T hT2 h37
  have hA : fa_A 3 (μ2 205 6) (μ2 205 7) (μ2 206) (μ2 209) μ2 := by
    rw [d6, d7, c 206 (by decide) (by decide) (by decide) (by decide), c 209 (by decide) (by decide) (by decide) (by decide)]
    exact fa_A_fr hW.1.1 (fun r r1 r2 => c r (by omega) (by omega) (by omega) (by omega))
  obtain ⟨ls, hL, ⟨x1, x2⟩, x3, x4⟩ := hW.2.2.2.2.2
  have t0 : ∃ ls2, fr_L μ2 0 ls2 ∧ fc_L (μ2 17 2) (μ2 18) (μ2 19) 0 ls2 ∧ μ2 17 2 ≤ 16 := by
    by_cases h0 : j = 0
    · obtain ⟨K, V, J, t, ht, -, n1, n2, -, -, -⟩ := hN (by omega)
      obtain ⟨m1, m2⟩ := n1.1 h0
      obtain ⟨m3, m4⟩ := n2 h0
      obtain ⟨R, r1, r2⟩ := fz_law m1 m4 m3 t (Nat.le_refl _)
      rw [Int.sub_self] at r1 r2
      rw [b 17 (by decide) (by decide), b 18 (by decide) (by decide), b 19 (by decide) (by decide), m2]
      exact ⟨R, r1, r2, by omega⟩
    · obtain ⟨k1, k2⟩ := f2 h0
      rw [cx 17 (by decide) (by decide) (by omega), cx 18 (by decide) (by decide) (by omega), cx 19 (by decide) (by decide) (by omega)]
      have e1 : ∀ r, 213 ≤ r → r ≤ 219 → μ1 r = μ r := fun r _ _ => a r (by omega) (by omega)
      exact ⟨ls, fr_L_y hW.2.2.2.2.1 (by rw [k1, e1 213 (by decide) (by decide)]) (zMy_tr (zMy_eq (fun r p q => e1 r (by omega) q)) k2) (by decide) hL, x1, x2⟩
  have t1 : fa_cR (μ2 205 6) (μ2 205 7) (μ2 205 33) (μ2 20 2) (μ2 21) (μ2 221) := by
    rw [d6, d7]
    by_cases h1 : j = 1
    · obtain ⟨K, V, J, t, ht, n0, n1, -, n3, -, -⟩ := hN (by omega)
      obtain ⟨m1, m2⟩ := n1.2.1 h1
      obtain ⟨m3, m4⟩ := n3 h1
      rw [b 20 (by decide) (by decide), b 21 (by decide) (by decide)]
      rw [h1, zLk_1, e6, e7] at n0
      exact fz_cR n0 ht m1 m4 m2 m3 hq.1 hq.2
    · obtain ⟨k1, k2⟩ := f3 h1
      rw [cx 20 (by decide) (by decide) (by omega), cx 21 (by decide) (by decide) (by omega)]
      exact fa_cR_cg x3 (by rw [k1, a205]) rfl (fun i _ _ => rfl) (fun i i0 i1 => (k2 i i1).trans (by rw [a 221 (by decide) (by decide)]))
  have t2 : fa_cD (μ2 205 6) (μ2 205 7) (μ2 205 35) (μ2 23 2) (μ2 24) (μ2 222) := by
    rw [d6, d7]
    by_cases h1 : j = 2
    · obtain ⟨K, V, J, t, ht, n0, n1, -, -, n3, -⟩ := hN (by omega)
      obtain ⟨m1, m2⟩ := n1.2.2.1 h1
      obtain ⟨m3, m4⟩ := n3 h1
      rw [b 23 (by decide) (by decide), b 24 (by decide) (by decide)]
      rw [h1, zLk_2, e6, e7] at n0
      exact fz_cD n0 ht m1 m4 m2 m3 hq.1 hq.2
    · obtain ⟨k1, k2⟩ := f4 h1
      rw [cx 23 (by decide) (by decide) (by omega), cx 24 (by decide) (by decide) (by omega)]
      exact fa_cD_cg x4 (by rw [k1, a205]) rfl (fun i _ _ => rfl) (fun i i0 i1 => (k2 i i1).trans (by rw [a 222 (by decide) (by decide)]))
  obtain ⟨ls2, l1, l2, l3⟩ := t0
  have e12 : μ2 1 = μ 1 := c 1 (by decide) (by decide) (by decide) (by decide)
  refine ⟨⟨by rw [c 33 (by decide) (by decide) (by decide) (by decide), c 35 (by decide) (by decide) (by decide) (by decide)]; exact z1, by rw [c 76 (by decide) (by decide) (by decide) (by decide), c 78 (by decide) (by decide) (by decide) (by decide)]; exact z2, by rw [e12, g2 70 (by omega), a205]; exact z3⟩, hT.2, ⟨⟨hA, fun e9 => ⟨?_, fun i i0 i1 => ?_⟩⟩, ?_, ?_, by rw [d6, d7]; exact hq, hlb, ls2, l1, ⟨l2, l3⟩, t1, t2⟩, ?_, fun h12 => ?_, by rw [h5, a205]; exact h50⟩
  · show μ2 2 2 = μ2 206 3
    rw [c 2 (by decide) (by decide) (by decide) (by decide), c 206 (by decide) (by decide) (by decide) (by decide)]
    exact (hW.1.2 rfl).1
  · show μ2 16 i = μ2 210 i
    rw [c 16 (by decide) (by decide) (by decide) (by decide), c 210 (by decide) (by decide) (by decide) (by decide)]
    exact (hW.1.2 rfl).2 i i0 i1
  · rw [d6, d7, c 206 (by decide) (by decide) (by decide) (by decide)]; exact hW.2.1
  · rw [d7, c 206 (by decide) (by decide) (by decide) (by decide)]; exact hW.2.2.1
  · unfold fz_K at hK ⊢
    rw [d6, d7, c 209 (by decide) (by decide) (by decide) (by decide), c 207 (by decide) (by decide) (by decide) (by decide)]
    have b96 : μ2 96 = μ1 96 := b 96 (by decide) (by decide)
    by_cases hu : j = 1 ∨ j = 2
    · obtain ⟨u3, u4⟩ := u2 hu
      rw [u4]
      exact fa_Kp_0 (by rw [b96]; exact u3) (by rw [b96, h96 2 (by decide)]; exact hK.2.2.1)
    · obtain ⟨u3, u4⟩ := u1 (fun h => hu (Or.inl h)) (fun h => hu (Or.inr h))
      rw [u4, a205]
      have e96 : μ2 96 = μ 96 := by
        rw [b96]
        funext i
        by_cases hi : i = 3
        · rw [hi]; exact u3
        · exact h96 i hi
      exact fa_Kp_fr hK e96 (c 98 (by decide) (by decide) (by decide) (by decide)) (fun r r1 r2 => c r (by omega) (by omega) (by omega) (by omega))
  · rw [e12] at h12
    exact fz_W_cg (fz_im_G (fun r hr => c r (by omega) (by omega) (by omega) (by omega))) (hI h12)
/-- the class's turn -/
def zHF_text (k : Int) (μ1 : pm_Mem) : Prop := ∃ μ x, zRF μ ∧ zTxF k μ x μ1
