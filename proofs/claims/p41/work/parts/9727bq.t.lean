/-! the reference reads conditions: each step of it -/
section ZAH
variable {T : Int → Int} {LL : Int} {K S V : Int → Int} {N : Int} {P : Nat → Int} {μ0 μ μ' μ1 μ2 μ3 μ4 : pm_Mem} {j0 q j p : Int} {td r m m' k : Nat}
theorem zAg_q (h : zAg T LL K S V N P μ0 j0 td r q m j μ) (h8 : μ 205 26 ≤ 8) : 0 ≤ q ∧ q ≤ 8 := by
  obtain ⟨-, ⟨b1, b2, b3, b4⟩, -, -⟩ := h
  have := zOB (zPl_TT (μ 220) m)
  omega
/-- a not, a bracket -/
theorem zAg_open {q' v : Int} (h : zAg T LL K S V N P μ0 j0 1 3 q m j μ) (h8 : μ 205 26 < 8) (e1 : μ1 = pm_up μ 205 26 (μ 205 26 + 1)) (e2 : μ2 = pm_up μ1 220 (μ1 205 28) v) (e3 : μ3 = pm_up μ2 205 28 (μ1 205 28 + 1)) (hr : zRx μ3 μ4) (hv : (v = 9 ∧ K j = 317 ∧ q' = q) ∨ (v = 12 ∧ K j = 40 ∧ q' = q + 1)) : zAg T LL K S V N P μ0 j0 1 3 q' (m + 1) (j + 1) μ4 := by
  have hb := h.2.1
  refine zAg_up h (by omega) (Or.inr ⟨e1, rfl⟩) e2 e3 hr ?_ ?_ ?_ (fun f q L hL => ?_)
  · rw [zOn_c, if_pos (by omega), hb.2.1]
  · rw [zBn_c, ← hb.2.2.1]
    rcases hv with ⟨hv, -, hq⟩ | ⟨hv, -, hq⟩
    · rw [if_neg (by omega), hq]; omega
    · rw [if_pos hv, hq]
  · rw [zSk_c]
    rcases hv with ⟨hv, -, -⟩ | ⟨hv, -, -⟩
    · exact Or.inr (Or.inr (Or.inr ⟨hv, by decide, hb.2.2.2⟩))
    · exact Or.inl ⟨hv, hb.2.2.2⟩
  · rcases hv with ⟨rfl, hk, -⟩ | ⟨rfl, hk, -⟩
    · exact zRx1_n hk h8 hL
    · exact zRx1_b hk h8 hL
/-- an and, an or, told -/
theorem zAg_wait {v : Int} (h : zAg T LL K S V N P μ0 j0 0 r q m j μ) (e2 : μ2 = pm_up μ 220 (μ 205 28) v) (e3 : μ3 = pm_up μ2 205 28 (μ 205 28 + 1)) (hr : zRx μ3 μ4) (hv : (v = 10 ∧ K j = 316 ∧ r = 1) ∨ (v = 11 ∧ K j = 315 ∧ r = 0)) : zAg T LL K S V N P μ0 j0 1 3 q (m + 1) (j + 1) μ4 := by
  have hb := h.2.1
  refine zAg_up h (by omega) (Or.inl ⟨rfl, rfl⟩) e2 e3 hr ?_ ?_ ?_ (fun f q L hL => ?_)
  · rw [zOn_c, if_neg (by omega), hb.2.1]; omega
  · rw [zBn_c, ← hb.2.2.1, if_neg (by omega)]; omega
  · rw [zSk_c]
    rcases hv with ⟨hv, -, hr⟩ | ⟨hv, -, hr⟩
    · exact Or.inr (Or.inr (Or.inl ⟨hv, by decide, by rw [← hr]; exact hb.2.2.2⟩))
    · exact Or.inr (Or.inl ⟨hv, by decide, by rw [← hr]; exact hb.2.2.2⟩)
  · rcases hv with ⟨rfl, hk, hr⟩ | ⟨rfl, hk, hr⟩
    · exact zRx1_a (by rw [← hr]; exact hb.2.2.2) hk hL
    · exact zRx1_o (by rw [← hr]; exact hb.2.2.2) hk hL
/-- two expressions compared, nots settled -/
theorem zAg_cmp {C : List zIw} (h : zAg T LL K S V N P μ0 j0 1 3 q m j μ) (hk1 : K j ≠ 317) (hk2 : K j ≠ 40) (hc : zCm K V j 0 p C) (hq : zMq μ μ1) (hms : zMs K S V N P p μ1) (hre : zRe μ μ1 (zXp C)) (hb : μ1 205 25 + j ≤ μ 205 25 + p) (hs : zSe μ1 μ2 9 m m' k) (ht : m' = 0 ∨ μ1 220 ((m' : Int) - 1) ≠ 9) : zAg T LL K S V N P μ0 j0 0 2 q m' p μ2 := by
  obtain ⟨⟨a1, a2, a3⟩, ⟨b1, b2, b3, b4⟩, ⟨Lp, c1, c2⟩, d1, d2⟩ := h
  obtain ⟨s1, s2, s3, s4, s5, s6, s7, s8⟩ := hs
  have i20 : μ1 220 = μ 220 := hq.1 220 (by decide) (by decide) (by decide)
  have i26 : μ1 205 26 = μ 205 26 := hq.2.1 26 (by decide) (by decide) (by decide) (by decide) (by decide) (by decide) (by decide)
  rw [if_pos rfl] at s8
  rw [i20] at s3 ht s6
  have hl := s4.2.1
  rw [zTz_len] at hl
  rw [s3] at b2 b3 b4 c2
  have hP := zTtp_pl ht
  have o26 : μ2 205 26 = μ 205 26 - (k : Int) := by rw [s8, i26]
  refine ⟨⟨zMx_f (zMx_f a1 (zMf_q hq)) (zMf_w s5), zMs_of hms s7, zMw_tr a3 (zMw_tr (zMw_q hq) s5)⟩, ⟨s2, ?_, ?_, ?_⟩, ⟨Lp ++ C ++ zTz 9 k, ?_, fun f q L hL => ?_⟩, by omega, d2⟩
  · rw [s6, o26, b2, zOn_9]; omega
  · rw [s6, b3, zBn_o (by decide)]
  · rw [s6]; exact zSk_t9 k b4 hP
  · rw [zXp_a, zXp_a, zXp_tz (by decide)]
    exact zRe_tr (zRe_tr c1 hre) s4
  · rw [s6, o26] at hL
    have h1 := zRx1_s (zBx_c (o := μ 205 26) (w := -1) hk1 hk2 hc) (zRx1_9 k hL)
    have h2 := c2 f q _ h1
    simpa using h2
/-- an and that waits is settled -/
theorem zAg_10 (h : zAg T LL K S V N P μ0 j0 0 2 q m j μ) (hs : zSe μ μ1 10 m m' k) (ht : m' = 0 ∨ μ 220 ((m' : Int) - 1) ≠ 10) : zAg T LL K S V N P μ0 j0 0 1 q m' j μ1 := by
  obtain ⟨⟨a1, a2, a3⟩, ⟨b1, b2, b3, b4⟩, ⟨Lp, c1, c2⟩, d1, d2⟩ := h
  obtain ⟨s1, s2, s3, s4, s5, s6, s7, s8⟩ := hs
  rw [if_neg (by decide)] at s8
  have hl := s4.2.1
  rw [zTz_len] at hl
  rw [s3] at b2 b3 b4 c2
  obtain ⟨g1, g2⟩ := zSk_t10 b4 (zTtp_pl ht)
  have o26 : μ1 205 26 = μ 205 26 := by omega
  refine ⟨⟨zMx_f a1 (zMf_w s5), zMs_of a2 s7, zMw_tr a3 s5⟩, ⟨s2, ?_, ?_, ?_⟩, ⟨Lp ++ zTz 10 k, ?_, fun f q L hL => ?_⟩, by omega, d2⟩
  · rw [s6, o26, b2, zOn_o (by decide) (by decide)]
  · rw [s6, b3, zBn_o (by decide)]
  · rw [s6]; exact g1
  · rw [zXp_a, zXp_tz (by decide)]
    exact zRe_tr c1 s4
  · rw [s6, o26] at hL
    have hk : k = 0 ∨ k = 1 := by omega
    rcases hk with rfl | rfl
    · have h2 := c2 f q _ hL
      simpa [zTz] using h2
    · have h2 := c2 f q _ (zRx1_10 hL)
      simpa [zTz] using h2
/-- an or that waits is settled -/
theorem zAg_11 (h : zAg T LL K S V N P μ0 j0 0 1 q m j μ) (hk6 : K j ≠ 316) (hs : zSe μ μ1 11 m m' k) (ht : m' = 0 ∨ μ 220 ((m' : Int) - 1) ≠ 11) : zAg T LL K S V N P μ0 j0 0 0 q m' j μ1 := by
  obtain ⟨⟨a1, a2, a3⟩, ⟨b1, b2, b3, b4⟩, ⟨Lp, c1, c2⟩, d1, d2⟩ := h
  obtain ⟨s1, s2, s3, s4, s5, s6, s7, s8⟩ := hs
  rw [if_neg (by decide)] at s8
  have hl := s4.2.1
  rw [zTz_len] at hl
  rw [s3] at b2 b3 b4 c2
  obtain ⟨g1, g2⟩ := zSk_t11 b4 (zTtp_pl ht)
  have o26 : μ1 205 26 = μ 205 26 := by omega
  refine ⟨⟨zMx_f a1 (zMf_w s5), zMs_of a2 s7, zMw_tr a3 s5⟩, ⟨s2, ?_, ?_, ?_⟩, ⟨Lp ++ zTz 11 k, ?_, fun f q L hL => ?_⟩, by omega, d2⟩
  · rw [s6, o26, b2, zOn_o (by decide) (by decide)]
  · rw [s6, b3, zBn_o (by decide)]
  · rw [s6]; exact g1
  · rw [zXp_a, zXp_tz (by decide)]
    exact zRe_tr c1 s4
  · rw [s6, o26] at hL
    have hk : k = 0 ∨ k = 1 := by omega
    rcases hk with rfl | rfl
    · have h2 := c2 f q _ hL
      simpa [zTz] using h2
    · have h2 := c2 f q _ (zRx1_11 g1 hk6 hL)
      simpa [zTz] using h2
theorem zSk_0 {P : List Int} (h : zSk P 0) : P = [] ∨ ∃ P', P = 12 :: P' ∧ zSk P' 3 := by
  cases P with
  | nil => exact Or.inl rfl
  | cons x P =>
    rw [zSk_c] at h
    rcases h with ⟨rfl, h⟩ | ⟨-, h, -⟩ | ⟨-, h, -⟩ | ⟨-, h, -⟩
    · exact Or.inr ⟨P, rfl, h⟩
    · omega
    · omega
    · omega
/-- a level's end: all, or a bracket -/
theorem zAg_lv (h : zAg T LL K S V N P μ0 j0 0 0 q m j μ) : (q = 0 ∧ m = 0) ∨ (q ≠ 0 ∧ ∃ m', m = m' + 1 ∧ μ 220 (m' : Int) = 12 ∧ zSk (zPl_TT (μ 220) m') 3 ∧ 1 ≤ μ 205 26) := by
  obtain ⟨-, ⟨b1, b2, b3, b4⟩, -, -⟩ := h
  cases m with
  | zero => exact Or.inl ⟨b3, rfl⟩
  | succ m =>
    rw [zPl_s] at b2 b3 b4
    rcases zSk_0 b4 with h | ⟨P', h, h'⟩
    · cases h
    · have h1 : μ 220 (m : Int) = 12 := (List.cons.inj h).1
      have h2 : zPl_TT (μ 220) m = P' := (List.cons.inj h).2
      rw [zBn_c, if_pos h1] at b3
      rw [zOn_c, if_pos (Or.inr h1)] at b2
      have := zOB (zPl_TT (μ 220) m)
      exact Or.inr ⟨by omega, m, rfl, h1, by rw [h2]; exact h', by omega⟩
theorem zAg_lq (h : zAg T LL K S V N P μ0 j0 0 0 q m j μ) (hq : q ≠ 0) : ∃ m', m = m' + 1 ∧ μ 220 (m' : Int) = 12 ∧ zSk (zPl_TT (μ 220) m') 3 ∧ 1 ≤ μ 205 26 := by
  rcases zAg_lv h with ⟨a, -⟩ | ⟨-, a⟩
  · exact absurd a hq
  · exact a
theorem zAg_fin (h : zAg T LL K S V N P μ0 j0 0 0 0 m j μ) (h5 : K j ≠ 315) (h6 : K j ≠ 316) : ∃ L, zRx1 K V 1 [] 0 j0 0 j L ∧ zRe μ0 μ (zXp L) ∧ μ 205 26 = 0 ∧ μ 205 25 + j0 ≤ μ0 205 25 + j := by
  have hv := zAg_lv h
  obtain ⟨-, ⟨b1, b2, b3, b4⟩, ⟨Lp, c1, c2⟩, d1, d2⟩ := h
  have hm : m = 0 := by
    rcases hv with ⟨-, hm⟩ | ⟨hq, -⟩
    · exact hm
    · exact absurd rfl hq
  subst hm
  have h1 := c2 0 j [] (zRx1_end h5 h6)
  rw [List.append_nil] at h1
  exact ⟨Lp, h1, c1, b2, by omega⟩
theorem zAg_nof (h : zAg T LL K S V N P μ0 j0 0 0 q m j μ) (hq : q ≠ 0) (h5 : K j ≠ 315) (h6 : K j ≠ 316) (h4 : K j ≠ 41) : ∃ L, zRx1 K V 1 [] 0 j0 1 j L := by
  have hv := zAg_lv h
  obtain ⟨-, -, ⟨Lp, c1, c2⟩, -⟩ := h
  rcases hv with ⟨hv, -⟩ | ⟨-, m', rfl, e, -, -⟩
  · exact absurd hv hq
  · refine ⟨_, c2 1 j [] ?_⟩
    rw [zPl_s, e]
    exact zRx1_no h5 h6 h4
theorem zAg_flt {f : Int} (h : zAg T LL K S V N P μ0 j0 1 3 q m j μ) {L1 : List zIw} {p : Int} (hB : zBx K V 0 (μ 205 26) (-1) j f p L1) (hf : f ≠ 0) : ∃ L, zRx1 K V 1 [] 0 j0 f p L := by
  obtain ⟨-, -, ⟨Lp, c1, c2⟩, -⟩ := h
  exact ⟨_, c2 f p [] (zRx1_f hB hf)⟩
/-- a bracket is shut -/
theorem zAg_close {m3 : Nat} (h : zAg T LL K S V N P μ0 j0 0 0 q (m + 1) j μ) (hk : K j = 41) (e12 : μ 220 (m : Int) = 12) (h3 : zSk (zPl_TT (μ 220) m) 3) (e1 : μ1 = pm_up μ 205 28 (μ 205 28 - 1)) (e2 : μ2 = pm_up μ1 205 26 (μ1 205 26 - 1)) (hs : zSe μ2 μ3 9 m m3 k) (ht : m3 = 0 ∨ μ2 220 ((m3 : Int) - 1) ≠ 9) (hr : zRx μ3 μ4) : zAg T LL K S V N P μ0 j0 0 2 (q - 1) m3 (j + 1) μ4 := by
  obtain ⟨⟨a1, a2, a3⟩, ⟨b1, b2, b3, b4⟩, ⟨Lp, c1, c2⟩, d1, d2⟩ := h
  obtain ⟨s1, s2, s3, s4, s5, s6, s7, s8⟩ := hs
  rw [if_pos rfl] at s8
  have hl := s4.2.1
  rw [zTz_len] at hl
  have f1 : ∀ r, r ≠ 205 → μ2 r = μ r := fun r hr => by rw [e2, pm_up_row hr, e1, pm_up_row hr]
  have f2 : ∀ i : Int, i ≠ 26 → i ≠ 28 → μ2 205 i = μ 205 i := fun i h1 h2 => by rw [e2, pm_up_ne h1, e1, pm_up_ne h2]
  have f26 : μ2 205 26 = μ 205 26 - 1 := by rw [e2, pm_up_eq, e1, pm_up_ne (by decide)]
  have hw2 : zMw μ μ2 := zMw_tr (μ1 := μ1) (by rw [e1]; exact zMw_5 (Or.inr rfl)) (by rw [e2]; exact zMw_5 (Or.inl rfl))
  have i20 : μ2 220 = μ 220 := f1 220 (by decide)
  rw [i20] at s3 ht s6
  rw [zPl_s, e12] at b2 b3 b4 c2
  rw [zOn_c, if_pos (Or.inr rfl)] at b2
  rw [zBn_c, if_pos rfl] at b3
  rw [s3] at b2 b3 h3 c2
  rw [zOn_9] at b2
  rw [zBn_o (by decide)] at b3
  have hx3 := zMx_f (zMx_f a1 (zMf_w hw2)) (zMf_w s5)
  have hm3 : zMs K S V N P j μ3 := zMs_of a2 (fun i hi => by rw [s7 i hi, f2 i (by omega) (by omega)])
  have hjn : j < N := by
    have := a2.1
    have hn : j ≠ N := fun he => by
      have := a1.1.2.2.2.1
      rw [← he] at this
      omega
    omega
  have hf := hr.1
  have k20 : μ4 220 = μ 220 := by rw [hf.1 220 (by decide), s6]
  have k26 : μ4 205 26 = μ 205 26 - 1 - (k : Int) := by rw [hf.2 26 (by decide) (by decide) (by decide) (by decide), s8, f26]
  have k25 : μ4 205 25 = μ3 205 25 := hf.2 25 (by decide) (by decide) (by decide) (by decide)
  have j25 : μ2 205 25 = μ 205 25 := f2 25 (by decide) (by decide)
  have k28 : μ4 205 28 = (m3 : Int) := by rw [hf.2 28 (by decide) (by decide) (by decide) (by decide), s2]
  refine ⟨⟨zMx_f hx3 (zMf_fr hf), zMs_rd hx3 hm3 hjn hr, zMw_tr a3 (zMw_tr hw2 (zMw_tr s5 (zMw_r (zMr_fr hf))))⟩, ⟨k28, ?_, ?_, ?_⟩, ⟨Lp ++ zTz 9 k, ?_, fun f q L hL => ?_⟩, by omega, d2⟩
  · rw [k20, k26, b2]; omega
  · rw [k20, b3]; omega
  · rw [k20]; exact zSk_t9 k h3 (zTtp_pl ht)
  · rw [zXp_a, zXp_tz (by decide)]
    refine zRe_fr (zRe_tr c1 (zRe_to s4 (f1 218 (by decide)) (f1 219 (by decide)) j25)) (hf.1 218 (by decide)) (hf.1 219 (by decide)) k25
  · rw [k20, k26] at hL
    have h2 := c2 f q _ (zRx1_cl hk (zRx1_9 k hL))
    simpa using h2
end ZAH
