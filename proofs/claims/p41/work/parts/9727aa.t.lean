/-! tokens of a text: what stands at a place -/
abbrev zbL (c : Int) : Prop := (97 ≤ c ∧ c ≤ 122) ∨ (65 ≤ c ∧ c ≤ 90)
abbrev zbD (c : Int) : Prop := 48 ≤ c ∧ c ≤ 57
abbrev zbB (c : Int) : Prop := c = 32 ∨ c = 10
abbrev zbS (c : Int) : Prop := c = 59 ∨ (40 ≤ c ∧ c ≤ 43) ∨ c = 45 ∨ c = 47 ∨ (60 ≤ c ∧ c ≤ 62)
/-- from s to q stands what stands together -/
def zRun (T : Int → Int) (L s q : Int) : Prop := (s < q ∧ q ≤ L) ∧ (zbL (T s) → (∀ x, s ≤ x → x < q → zbL (T x)) ∧ (q < L → ¬ zbL (T q))) ∧ (zbD (T s) → (∀ x, s ≤ x → x < q → zbD (T x)) ∧ (q < L → ¬ zbD (T q))) ∧ (¬ zbL (T s) → ¬ zbD (T s) → q = s + 1)
theorem zRun_det {T : Int → Int} {L s q q' : Int} (h : zRun T L s q) (h' : zRun T L s q') : q = q' := by
  obtain ⟨⟨a1, a2⟩, b, c, d⟩ := h
  obtain ⟨⟨a1', a2'⟩, b', c', d'⟩ := h'
  by_cases hl : zbL (T s)
  · obtain ⟨b1, b2⟩ := b hl
    obtain ⟨b1', b2'⟩ := b' hl
    rcases Int.lt_trichotomy q q' with g | g | g
    · exact absurd (b1' q (by omega) g) (b2 (by omega))
    · exact g
    · exact absurd (b1 q' (by omega) g) (b2' (by omega))
  · by_cases hd : zbD (T s)
    · obtain ⟨b1, b2⟩ := c hd
      obtain ⟨b1', b2'⟩ := c' hd
      rcases Int.lt_trichotomy q q' with g | g | g
      · exact absurd (b1' q (by omega) g) (b2 (by omega))
      · exact g
      · exact absurd (b1 q' (by omega) g) (b2' (by omega))
    · rw [d hl hd, d' hl hd]
/-- the number that digits tell -/
def zNum (T : Int → Int) (s : Int) : Nat → Int
  | 0 => 0
  | n + 1 => zNum T s n * 10 + T (s + n) - 48
theorem zNum_s (T : Int → Int) (s : Int) (n : Nat) : zNum T s (n + 1) = zNum T s n * 10 + T (s + n) - 48 := rfl
theorem zNum_bd {T : Int → Int} {s : Int} : ∀ n : Nat, (∀ x, s ≤ x → x < s + n → zbD (T x)) → 0 ≤ zNum T s n ∧ (n = 0 → zNum T s n ≤ 0) ∧ (n ≤ 1 → zNum T s n ≤ 9) ∧ (n ≤ 2 → zNum T s n ≤ 99) ∧ (n ≤ 3 → zNum T s n ≤ 999) ∧ (n ≤ 4 → zNum T s n ≤ 9999)
  | 0, _ => ⟨Int.le_refl _, fun _ => Int.le_refl _, fun _ => (show (0 : Int) ≤ 9 by decide), fun _ => (show (0 : Int) ≤ 99 by decide), fun _ => (show (0 : Int) ≤ 999 by decide), fun _ => (show (0 : Int) ≤ 9999 by decide)⟩
  | n + 1, h => by
    obtain ⟨a0, a1, a2, a3, a4, a5⟩ := zNum_bd n (fun x x0 x1 => h x x0 (by omega))
    have hd := h (s + n) (by omega) (by omega)
    rw [zNum_s]
    refine ⟨by omega, fun hn => by omega, fun hn => ?_, fun hn => ?_, fun hn => ?_, fun hn => ?_⟩
    · have := a1 (by omega); omega
    · have := a2 (by omega); omega
    · have := a3 (by omega); omega
    · have := a4 (by omega); omega
/-! words: where each begins in the class's text, how long it is -/
def zWB : List (Nat × Nat) := [(0, 4), (5, 6), (12, 5), (18, 5), (24, 6), (31, 5), (37, 5), (43, 4), (48, 6), (55, 5), (61, 5), (67, 4), (72, 6), (79, 3), (83, 4), (88, 2), (91, 3), (95, 3), (99, 8), (108, 2), (111, 2), (114, 3), (118, 2), (121, 5), (127, 4), (132, 4), (137, 4), (142, 2)]
def zwb (w : Nat) : Nat := (zWB.getD w (0, 0)).1
def zwl (w : Nat) : Nat := (zWB.getD w (0, 0)).2
/-- from s to q stands word w -/
def zWm (w : Nat) (T : Int → Int) (s q : Int) : Prop := q - s = (zwl w : Int) ∧ ∀ i : Nat, i < zwl w → T (s + i) = zwn (zwb w + i)
/-- where the word begins that a place of the text lies in -/
def zgb : Nat → Nat
  | 0 => 0
  | k + 1 => if zwn k = 32 then k + 1 else zgb k
theorem zgb_s (k : Nat) : zgb (k + 1) = if zwn k = 32 then k + 1 else zgb k := rfl
set_option maxRecDepth 100000 in
theorem zgb_ck : ∀ k, k < 145 → zwn k = 32 → zgb k = zwb (zrw k).toNat ∧ k = zwb (zrw k).toNat + zwl (zrw k).toNat ∧ (zrw k).toNat < 28 ∧ 0 ≤ zrw k := by decide +kernel
set_option maxRecDepth 100000 in
theorem zrw_145 : zrw 145 = 28 := by decide +kernel
theorem zgb_le : ∀ k, zgb k ≤ k
  | 0 => Nat.le_refl _
  | k + 1 => by
    have := zgb_le k
    rw [zgb_s]
    split <;> omega
/-! the same words in the reference's text -/
def zwM (w : Int) : Int := if w < 3 then w else if w ≤ 13 then w + 4 else if w ≤ 17 then w - 11 else w
theorem zwM_c (w : Int) : (w < 3 ∧ zwM w = w) ∨ (3 ≤ w ∧ w ≤ 13 ∧ zwM w = w + 4) ∨ (14 ≤ w ∧ w ≤ 17 ∧ zwM w = w - 11) ∨ (18 ≤ w ∧ zwM w = w) := by
  unfold zwM
  split
  · omega
  · split
    · omega
    · split <;> omega
def zWR : List (Nat × Nat) := [(1, 4), (6, 6), (13, 5), (19, 4), (24, 2), (27, 3), (31, 3), (35, 5), (41, 6), (48, 5), (54, 5), (60, 4), (65, 6), (72, 5), (78, 5), (84, 4), (89, 6), (96, 3), (100, 8), (109, 2), (112, 2), (115, 3), (119, 2), (122, 5), (128, 4), (133, 4), (138, 4), (143, 2)]
def zvb (w : Nat) : Nat := (zWR.getD w (0, 0)).1
def zvl (w : Nat) : Nat := (zWR.getD w (0, 0)).2
set_option maxRecDepth 100000 in
theorem zvb_ck : ∀ k, k < 145 → zwd k = 32 → zrank k < 28 ∧ zvb (zrank k) = k + 1 ∧ k + 1 + zvl (zrank k) ≤ 145 ∧ zwd (k + 1 + zvl (zrank k)) = 32 := by decide +kernel
set_option maxRecDepth 100000 in
theorem zvb_nb : ∀ k, k < 145 → zwd k = 32 → ∀ i, i < zvl (zrank k) → zwd (k + 1 + i) ≠ 32 := by decide +kernel
/-- from s to q stands word v of the reference's -/
def zWr (v : Nat) (T : Int → Int) (s q : Int) : Prop := q - s = (zvl v : Int) ∧ ∀ i : Nat, i < zvl v → T (s + i) = zwd (zvb v + i)
set_option maxRecDepth 100000 in
theorem zWr_ck : ∀ w : Nat, w < 28 → (zwM (w : Int)).toNat < 28 ∧ 0 ≤ zwM (w : Int) ∧ zvl (zwM (w : Int)).toNat = zwl w ∧ ∀ i, i < zwl w → zwd (zvb (zwM (w : Int)).toNat + i) = zwn (zwb w + i) := by decide +kernel
set_option maxRecDepth 100000 in
theorem zwM_sur : ∀ v : Nat, v < 28 → ∃ w : Nat, w < 28 ∧ zwM (w : Int) = (v : Int) := by decide +kernel
theorem zWr_m {w : Nat} {T : Int → Int} {s q : Int} (hw : w < 28) : zWr (zwM (w : Int)).toNat T s q ↔ zWm w T s q := by
  obtain ⟨-, -, e1, e2⟩ := zWr_ck w hw
  unfold zWr zWm
  rw [e1]
  exact ⟨fun h => ⟨h.1, fun i hi => by rw [h.2 i hi, e2 i hi]⟩, fun h => ⟨h.1, fun i hi => by rw [h.2 i hi, e2 i hi]⟩⟩
set_option maxRecDepth 100000 in
theorem zWm_ne : ∀ w, w < 28 → ∀ w', w' < 28 → zwl w = zwl w' → (∀ i, i < zwl w → zwn (zwb w + i) = zwn (zwb w' + i)) → w = w' := by decide +kernel
theorem zWm_det {w w' : Nat} {T : Int → Int} {s q : Int} (h1 : w < 28) (h2 : w' < 28) (h : zWm w T s q) (h' : zWm w' T s q) : w = w' := by
  have e : zwl w = zwl w' := by have := h.1; have := h'.1; omega
  exact zWm_ne w h1 w' h2 e (fun i hi => (h.2 i hi).symm.trans (h'.2 i (by omega)))
/-- a token's kind: a word's, a number's, a sign's, or none -/
def zKd (T : Int → Int) (s q k : Int) : Prop := (zbL (T s) → (∃ w : Nat, w < 28 ∧ k = 300 + (w : Int) ∧ zWm w T s q) ∨ (k = 258 ∧ ∀ w : Nat, w < 28 → ¬ zWm w T s q)) ∧ (zbD (T s) → (q - s ≤ 4 ∧ k = 256) ∨ (4 < q - s ∧ k = 258)) ∧ (¬ zbL (T s) → ¬ zbD (T s) → (zbS (T s) ∧ k = T s) ∨ (¬ zbS (T s) ∧ k = 258))
theorem zKd_det {T : Int → Int} {s q k k' : Int} (h : zKd T s q k) (h' : zKd T s q k') : k = k' := by
  obtain ⟨a, b, c⟩ := h
  obtain ⟨a', b', c'⟩ := h'
  by_cases hl : zbL (T s)
  · rcases a hl with ⟨w, w1, w2, w3⟩ | ⟨w1, w2⟩
    · rcases a' hl with ⟨v, v1, v2, v3⟩ | ⟨v1, v2⟩
      · rw [w2, v2, zWm_det w1 v1 w3 v3]
      · exact absurd w3 (v2 w w1)
    · rcases a' hl with ⟨v, v1, v2, v3⟩ | ⟨v1, v2⟩
      · exact absurd v3 (w2 v v1)
      · rw [w1, v1]
  · by_cases hd : zbD (T s)
    · have := b hd
      have := b' hd
      omega
    · have := c hl hd
      have := c' hl hd
      omega
/-- kinds that there are -/
abbrev zKin (k : Int) : Prop := zbS k ∨ k = 256 ∨ k = 258 ∨ (300 ≤ k ∧ k ≤ 327)
theorem zKd_in {T : Int → Int} {s q k : Int} (h : zKd T s q k) : zKin k := by
  obtain ⟨a, b, c⟩ := h
  by_cases hl : zbL (T s)
  · rcases a hl with ⟨w, w1, w2, -⟩ | ⟨w1, -⟩ <;> omega
  · by_cases hd : zbD (T s)
    · have := b hd
      omega
    · rcases c hl hd with ⟨c1, c2⟩ | ⟨c1, c2⟩
      · rw [c2]; exact Or.inl c1
      · omega
/-- behind p comes a token: from s to q, its kind, its number -/
def zTok (T : Int → Int) (L p s k v q : Int) : Prop := (p ≤ s ∧ s < L) ∧ (∀ x, p ≤ x → x < s → zbB (T x)) ∧ ¬ zbB (T s) ∧ zRun T L s q ∧ zKd T s q k ∧ (k = 256 → v = zNum T s (q - s).toNat)
/-- behind p comes nothing more -/
def zEnd (T : Int → Int) (L p : Int) : Prop := p ≤ L ∧ ∀ x, p ≤ x → x < L → zbB (T x)
theorem zTok_det {T : Int → Int} {L p s k v q s' k' v' q' : Int} (h : zTok T L p s k v q) (h' : zTok T L p s' k' v' q') : s = s' ∧ k = k' ∧ q = q' ∧ (k = 256 → v = v') := by
  obtain ⟨⟨a1, a2⟩, b, c, d, e, f⟩ := h
  obtain ⟨⟨a1', a2'⟩, b', c', d', e', f'⟩ := h'
  have hs : s = s' := by
    rcases Int.lt_trichotomy s s' with g | g | g
    · exact absurd (b' s a1 g) c
    · exact g
    · exact absurd (b s' a1' g) c'
  subst hs
  have hq := zRun_det d d'
  subst hq
  have hk := zKd_det e e'
  subst hk
  exact ⟨rfl, rfl, rfl, fun h => (f h).trans (f' h).symm⟩
theorem zTok_end {T : Int → Int} {L p s k v q : Int} (h : zTok T L p s k v q) (h' : zEnd T L p) : False := h.2.2.1 (h'.2 s h.1.1 h.1.2)
/-- tokens in a row, n of them; P tells where each is looked for -/
def zTks (T : Int → Int) (L : Int) (K S V : Int → Int) (n : Int) (P : Nat → Int) : Prop := P 0 = 0 ∧ ∀ j : Nat, (j : Int) < n → zTok T L (P j) (S j) (K j) (V j) (P (j + 1))
theorem zTks_P {T : Int → Int} {L n : Int} {K S V : Int → Int} {P : Nat → Int} (h : zTks T L K S V n P) : ∀ j : Nat, (j : Int) ≤ n → (j : Int) ≤ P j ∧ (1 ≤ j → P j ≤ L)
  | 0, _ => ⟨by rw [h.1]; exact Int.le_refl _, fun h1 => absurd h1 (by omega)⟩
  | j + 1, hj => by
    have a := zTks_P h j (by omega)
    obtain ⟨⟨a1, a2⟩, -, -, ⟨⟨b1, b2⟩, -⟩, -⟩ := h.2 j (by omega)
    exact ⟨by omega, fun _ => b2⟩
/-- all of a text's tokens -/
def zLex (T : Int → Int) (L : Int) (K S V : Int → Int) (n : Int) (P : Nat → Int) : Prop := (0 ≤ n ∧ n ≤ L) ∧ zTks T L K S V n P ∧ zEnd T L (P n.toNat) ∧ K n = 257 ∧ S n = L ∧ V n = 0
theorem zLex_K {T : Int → Int} {L n : Int} {K S V : Int → Int} {P : Nat → Int} (h : zLex T L K S V n P) {j : Int} (h0 : 0 ≤ j) (h1 : j < n) : zKin (K j) := by
  have := h.2.1.2 j.toNat (by omega)
  rw [show ((j.toNat : Nat) : Int) = j by omega] at this
  exact zKd_in this.2.2.2.2.1
/-- what the reference holds of a token: kind and value -/
def zTV (k v t w : Int) : Prop := (k = 257 → t = 0) ∧ (k = 258 → t = 1) ∧ (300 ≤ k → t = 2 ∧ w = zwM (k - 300)) ∧ (k = 256 → t = 3 ∧ w = v) ∧ (k < 256 → t = 4 ∧ w = k)
/-- the reference stands at token j -/
def zAt (L : Int) (K S V : Int → Int) (n : Int) (P : Nat → Int) (j : Nat) (μ : pm_Mem) : Prop := (j : Int) ≤ n ∧ μ 205 13 = S j ∧ zTV (K j) (V j) (μ 205 14) (μ 205 15) ∧ ((j : Int) < n → μ 205 12 = P (j + 1))
/-! the class lays its tokens down -/
def zAdd (μ : pm_Mem) (k s v : Int) : pm_Mem := pm_up (pm_up (pm_up (pm_up μ 90 (μ 88 7) k) 91 (μ 88 7) s) 92 (μ 88 7) v) 88 7 (μ 88 7 + 1)
theorem zAdd_r {μ : pm_Mem} {k s v : Int} {r : Nat} (h1 : r ≠ 88) (h2 : r ≠ 90) (h3 : r ≠ 91) (h4 : r ≠ 92) : zAdd μ k s v r = μ r := by
  unfold zAdd
  rw [pm_up_row h1, pm_up_row h4, pm_up_row h3, pm_up_row h2]
theorem zAdd_n {μ : pm_Mem} {k s v : Int} : zAdd μ k s v 88 7 = μ 88 7 + 1 := pm_up_eq _ _ _ _
theorem zAdd_88 {μ : pm_Mem} {k s v j : Int} (h : j ≠ 7) : zAdd μ k s v 88 j = μ 88 j := by
  unfold zAdd
  rw [pm_up_ne h, pm_up_off (by decide), pm_up_off (by decide), pm_up_off (by decide)]
theorem zAdd_k {μ : pm_Mem} {k s v : Int} : zAdd μ k s v 90 (μ 88 7) = k ∧ zAdd μ k s v 91 (μ 88 7) = s ∧ zAdd μ k s v 92 (μ 88 7) = v := by
  unfold zAdd
  refine ⟨?_, ?_, ?_⟩
  · rw [pm_up_off (by decide), pm_up_off (by decide), pm_up_off (by decide), pm_up_eq]
  · rw [pm_up_off (by decide), pm_up_off (by decide), pm_up_eq]
  · rw [pm_up_off (by decide), pm_up_eq]
theorem zAdd_o {μ : pm_Mem} {k s v j : Int} (h : j ≠ μ 88 7) : zAdd μ k s v 90 j = μ 90 j ∧ zAdd μ k s v 91 j = μ 91 j ∧ zAdd μ k s v 92 j = μ 92 j := by
  unfold zAdd
  refine ⟨?_, ?_, ?_⟩
  · rw [pm_up_off (by decide), pm_up_off (by decide), pm_up_off (by decide), pm_up_ne h]
  · rw [pm_up_off (by decide), pm_up_off (by decide), pm_up_ne h, pm_up_off (by decide)]
  · rw [pm_up_off (by decide), pm_up_ne h, pm_up_off (by decide), pm_up_off (by decide)]
/-- at place i of a text, p being where the next token is looked for -/
def zScP (T : Int → Int) (L i p : Int) : Prop := p ≤ L ∧ (∀ x, i ≤ x → x < p → 0 < x ∧ ((zbL (T x) ∧ zbL (T (x - 1))) ∨ (zbD (T x) ∧ zbD (T (x - 1))))) ∧ (∀ x, p ≤ x → x < i → zbB (T x)) ∧ (0 < p → p < L → ¬ (zbL (T p) ∧ zbL (T (p - 1))) ∧ ¬ (zbD (T p) ∧ zbD (T (p - 1))))
theorem zScP_0 {T : Int → Int} {L : Int} (h : 0 ≤ L) : zScP T L 0 0 := ⟨h, fun x x0 x1 => absurd x1 (by omega), fun x x0 x1 => absurd x1 (by omega), fun h => absurd h (by omega)⟩
theorem zScP_no {T : Int → Int} {L i p : Int} (h : zScP T L i p) (hi : i < L) (hb : zbB (T i) ∨ (0 < i ∧ ((zbL (T i) ∧ zbL (T (i - 1))) ∨ (zbD (T i) ∧ zbD (T (i - 1)))))) : zScP T L (i + 1) p := by
  obtain ⟨a, b, c, d⟩ := h
  refine ⟨a, fun x x0 x1 => b x (by omega) x1, fun x x0 x1 => ?_, d⟩
  by_cases hx : x = i
  · subst hx
    rcases hb with hb | ⟨hb0, hb⟩
    · exact hb
    · exfalso
      by_cases hxp : x = p
      · subst hxp
        have := d hb0 hi
        omega
      · have := c (x - 1) (by omega) (by omega)
        omega
  · exact c x x0 (by omega)
theorem zScP_in {T : Int → Int} {L i p : Int} (h : zScP T L i p) (h1 : ¬ zbB (T i)) (h2 : 0 < i → ¬ (zbL (T i) ∧ zbL (T (i - 1))) ∧ ¬ (zbD (T i) ∧ zbD (T (i - 1)))) : p ≤ i := by
  rcases (show i < p ∨ p ≤ i by omega) with g | g
  · obtain ⟨a0, a1⟩ := h.2.1 i (Int.le_refl _) g
    have := h2 a0
    omega
  · exact g
theorem zScP_tok {T : Int → Int} {L i p k v q : Int} (h : zScP T L i p) (hi : i < L) (h1 : ¬ zbB (T i)) (h2 : 0 < i → ¬ (zbL (T i) ∧ zbL (T (i - 1))) ∧ ¬ (zbD (T i) ∧ zbD (T (i - 1)))) (hr : zRun T L i q) (hk : zKd T i q k) (hv : k = 256 → v = zNum T i (q - i).toNat) (h0 : 0 ≤ i) : zTok T L p i k v q ∧ zScP T L (i + 1) q := by
  have hp := zScP_in h h1 h2
  refine ⟨⟨⟨hp, hi⟩, h.2.2.1, h1, hr, hk, hv⟩, ?_⟩
  obtain ⟨⟨r1, r2⟩, rl, rd, rn⟩ := hr
  refine ⟨r2, fun x x0 x1 => ⟨by omega, ?_⟩, fun x x0 x1 => absurd x1 (by omega), fun _ hq => ?_⟩
  · by_cases hl : zbL (T i)
    · exact Or.inl ⟨(rl hl).1 x (by omega) x1, (rl hl).1 (x - 1) (by omega) (by omega)⟩
    · by_cases hd : zbD (T i)
      · exact Or.inr ⟨(rd hd).1 x (by omega) x1, (rd hd).1 (x - 1) (by omega) (by omega)⟩
      · have := rn hl hd
        omega
  · by_cases hl : zbL (T i)
    · have e1 := (rl hl).1 (q - 1) (by omega) (by omega)
      have e2 := (rl hl).2 hq
      exact ⟨fun h => e2 h.1, fun h => by omega⟩
    · by_cases hd : zbD (T i)
      · have e1 := (rd hd).1 (q - 1) (by omega) (by omega)
        have e2 := (rd hd).2 hq
        exact ⟨fun h => by omega, fun h => e2 h.1⟩
      · have := rn hl hd
        have e : q - 1 = i := by omega
        rw [e]
        exact ⟨fun h => hl h.2, fun h => hd h.2⟩
theorem zTks_add {T : Int → Int} {L n k s v q : Int} {K S V K' S' V' : Int → Int} {P : Nat → Int} (h : zTks T L K S V n P) (h0 : 0 ≤ n) (ht : zTok T L (P n.toNat) s k v q) (e : K' n = k ∧ S' n = s ∧ V' n = v) (o : ∀ j, j ≠ n → K' j = K j ∧ S' j = S j ∧ V' j = V j) : zTks T L K' S' V' (n + 1) (fun j => if j = n.toNat + 1 then q else P j) := by
  refine ⟨?_, fun j hj => ?_⟩
  · show (if 0 = n.toNat + 1 then q else P 0) = 0
    rw [if_neg (by omega)]
    exact h.1
  · show zTok T L (if j = n.toNat + 1 then q else P j) (S' j) (K' j) (V' j) (if j + 1 = n.toNat + 1 then q else P (j + 1))
    rw [if_neg (show ¬ j = n.toNat + 1 by omega)]
    by_cases hjn : (j : Int) = n
    · rw [if_pos (show j + 1 = n.toNat + 1 by omega), hjn, e.1, e.2.1, e.2.2, show j = n.toNat by omega]
      exact ht
    · obtain ⟨o1, o2, o3⟩ := o j hjn
      rw [if_neg (show ¬ j + 1 = n.toNat + 1 by omega), o1, o2, o3]
      exact h.2 j (by omega)
/-- the class reads its text's tokens: at place i -/
def zScn (μ0 : pm_Mem) (i : Int) (μ : pm_Mem) : Prop := (∀ r, r ≠ 88 → r ≠ 90 → r ≠ 91 → r ≠ 92 → μ r = μ0 r) ∧ (∀ k, k ≠ 7 → μ 88 k = μ0 88 k) ∧ (0 ≤ μ 88 7 ∧ μ 88 7 ≤ i) ∧ ∃ P, zTks (μ0 89) (μ0 88 1) (μ 90) (μ 91) (μ 92) (μ 88 7) P ∧ zScP (μ0 89) (μ0 88 1) i (P (μ 88 7).toNat)
theorem zScn_0 {μ0 μ : pm_Mem} (h : 0 ≤ μ0 88 1) (e : μ = pm_up μ0 88 7 0) : zScn μ0 0 μ := by
  have e7 : μ 88 7 = 0 := by rw [e, pm_up_eq]
  refine ⟨fun r r1 _ _ _ => by rw [e, pm_up_row r1], fun k hk => by rw [e, pm_up_ne hk], by omega, fun _ => 0, ⟨rfl, fun j hj => absurd hj (by omega)⟩, zScP_0 h⟩
theorem zScn_no {μ0 μ : pm_Mem} {i : Int} (h : zScn μ0 i μ) (hi : i < μ0 88 1) (hb : zbB (μ 89 i) ∨ (0 < i ∧ ((zbL (μ 89 i) ∧ zbL (μ 89 (i - 1))) ∨ (zbD (μ 89 i) ∧ zbD (μ 89 (i - 1)))))) : zScn μ0 (i + 1) μ := by
  obtain ⟨a, b, c, P, d, e⟩ := h
  rw [a 89 (by decide) (by decide) (by decide) (by decide)] at hb
  exact ⟨a, b, by omega, P, d, zScP_no e hi hb⟩
theorem zScn_tok {μ0 μ μ' : pm_Mem} {i k v q : Int} (h : zScn μ0 i μ) (h0 : 0 ≤ i) (hi : i < μ0 88 1) (h1 : ¬ zbB (μ 89 i)) (h2 : 0 < i → ¬ (zbL (μ 89 i) ∧ zbL (μ 89 (i - 1))) ∧ ¬ (zbD (μ 89 i) ∧ zbD (μ 89 (i - 1)))) (hr : zRun (μ 89) (μ 88 1) i q) (hk : zKd (μ 89) i q k) (hv : k = 256 → v = zNum (μ 89) i (q - i).toNat) (e : μ' = zAdd μ k i v) : zScn μ0 (i + 1) μ' := by
  obtain ⟨a, b, c, P, d, p⟩ := h
  have e89 := a 89 (by decide) (by decide) (by decide) (by decide)
  have e1 := b 1 (by decide)
  rw [e89] at h1 h2 hr hk hv
  rw [e1] at hr
  obtain ⟨t1, t2⟩ := zScP_tok p hi h1 h2 hr hk hv h0
  have n7 : μ' 88 7 = μ 88 7 + 1 := by rw [e, zAdd_n]
  refine ⟨fun r r1 r2 r3 r4 => by rw [e, zAdd_r r1 r2 r3 r4]; exact a r r1 r2 r3 r4, fun j hj => by rw [e, zAdd_88 hj]; exact b j hj, by omega, fun j => if j = (μ 88 7).toNat + 1 then q else P j, ?_, ?_⟩
  · rw [n7]
    exact zTks_add d c.1 t1 (by rw [e]; exact zAdd_k) (fun j hj => by rw [e]; exact zAdd_o hj)
  · rw [n7]
    show zScP _ _ _ (if (μ 88 7 + 1).toNat = (μ 88 7).toNat + 1 then q else P (μ 88 7 + 1).toNat)
    rw [if_pos (by omega)]
    exact t2
/-- the class has read its text's tokens -/
def zScan (μ μ' : pm_Mem) : Prop := (∀ r, r ≠ 88 → r ≠ 90 → r ≠ 91 → r ≠ 92 → μ' r = μ r) ∧ (∀ k, k ≠ 7 → μ' 88 k = μ 88 k) ∧ ∃ n P, μ' 88 7 = n + 1 ∧ zLex (μ 89) (μ 88 1) (μ' 90) (μ' 91) (μ' 92) n P
theorem zScan_of {μ0 μ μ' : pm_Mem} {i : Int} (h : zScn μ0 i μ) (hi : i = μ0 88 1) (e : μ' = zAdd μ 257 (μ0 88 1) 0) : zScan μ0 μ' := by
  obtain ⟨a, b, c, P, d, p⟩ := h
  refine ⟨fun r r1 r2 r3 r4 => by rw [e, zAdd_r r1 r2 r3 r4]; exact a r r1 r2 r3 r4, fun j hj => by rw [e, zAdd_88 hj]; exact b j hj, μ 88 7, P, by rw [e, zAdd_n], ⟨by omega, by omega⟩, ⟨d.1, fun j hj => ?_⟩, ⟨p.1, fun x x0 x1 => p.2.2.1 x x0 (by omega)⟩, ?_⟩
  · obtain ⟨o1, o2, o3⟩ := zAdd_o (μ := μ) (k := 257) (s := μ0 88 1) (v := 0) (j := (j : Int)) (by omega)
    rw [e, o1, o2, o3]
    exact d.2 j hj
  · rw [e]
    exact zAdd_k
/-! the reference's words and tokens -/
theorem zWr_y {v : Nat} {T : Int → Int} {s q : Int} (hv : v < 28) (h : zWr v T s q) : ∃ w : Nat, w < 28 ∧ ((v : Nat) : Int) = zwM (w : Int) ∧ zWm w T s q := by
  obtain ⟨w, w1, w2⟩ := zwM_sur v hv
  refine ⟨w, w1, w2.symm, (zWr_m w1).mp ?_⟩
  rw [w2]
  exact h
theorem zWr_n {T : Int → Int} {s q : Int} (h : ∀ v : Nat, v < 28 → ¬ zWr v T s q) : ∀ w : Nat, w < 28 → ¬ zWm w T s q := fun w hw hm => by
  obtain ⟨a, b, -, -⟩ := zWr_ck w hw
  exact h _ a ((zWr_m hw).mpr hm)
/-- the reference reads a token -/
def zRx (μ0 μ : pm_Mem) : Prop := zFr μ0 μ ∧ ((zEnd (μ0 211) (μ0 205 11) (μ0 205 12) ∧ μ 205 13 = μ0 205 11 ∧ μ 205 14 = 0) ∨ (∃ s k v q, zTok (μ0 211) (μ0 205 11) (μ0 205 12) s k v q ∧ μ 205 13 = s ∧ μ 205 12 = q ∧ zTV k v (μ 205 14) (μ 205 15)))
/-- what is known ahead of a token's place -/
def zPre (T : Int → Int) (L p s : Int) : Prop := (p ≤ s ∧ s < L) ∧ (∀ x, p ≤ x → x < s → zbB (T x)) ∧ ¬ zbB (T s)
theorem zRx_w {μ0 μ : pm_Mem} {s q x : Int} (hf : zFr μ0 μ) (hp : zPre (μ0 211) (μ0 205 11) (μ0 205 12) s) (h13 : μ 205 13 = s) (h12 : μ 205 12 = q) (hq : s < q ∧ q ≤ μ0 205 11) (hl : ∀ y, s ≤ y → y < q → zbL (μ0 211 y)) (he : q < μ0 205 11 → ¬ zbL (μ0 211 q)) (hx : (∃ w : Nat, w < 28 ∧ x = zwM (w : Int) ∧ zWm w (μ0 211) s q) ∨ (x = -1 ∧ ∀ w : Nat, w < 28 → ¬ zWm w (μ0 211) s q)) (h15 : μ 205 15 = x) (h14 : (x = -1 ∧ μ 205 14 = 1) ∨ (x ≠ -1 ∧ μ 205 14 = 2)) : zRx μ0 μ := by
  obtain ⟨a, b, c⟩ := hp
  have ls := hl s (Int.le_refl _) hq.1
  have hr : zRun (μ0 211) (μ0 205 11) s q := ⟨hq, fun _ => ⟨hl, he⟩, fun h => absurd h (by omega), fun h => absurd ls h⟩
  rcases hx with ⟨w, w1, w2, w3⟩ | ⟨w1, w2⟩
  · have hM := zwM_c (w : Int)
    exact ⟨hf, Or.inr ⟨s, 300 + (w : Int), 0, q, ⟨a, b, c, hr, ⟨fun _ => Or.inl ⟨w, w1, rfl, w3⟩, fun h => absurd h (by omega), fun h => absurd ls h⟩, fun h => absurd h (by omega)⟩, h13, h12, ⟨fun h => absurd h (by omega), fun h => absurd h (by omega), fun _ => ⟨by omega, by rw [show 300 + (w : Int) - 300 = (w : Int) by omega, h15, w2]⟩, fun h => absurd h (by omega), fun h => absurd h (by omega)⟩⟩⟩
  · exact ⟨hf, Or.inr ⟨s, 258, 0, q, ⟨a, b, c, hr, ⟨fun _ => Or.inr ⟨rfl, w2⟩, fun h => absurd h (by omega), fun h => absurd ls h⟩, fun h => absurd h (by omega)⟩, h13, h12, ⟨fun h => absurd h (by omega), fun _ => by omega, fun h => absurd h (by omega), fun h => absurd h (by omega), fun h => absurd h (by omega)⟩⟩⟩
theorem zRx_d {μ0 μ : pm_Mem} {s q : Int} (hf : zFr μ0 μ) (hp : zPre (μ0 211) (μ0 205 11) (μ0 205 12) s) (h13 : μ 205 13 = s) (h12 : μ 205 12 = q) (hq : s < q ∧ q ≤ μ0 205 11) (hd : ∀ y, s ≤ y → y < q → zbD (μ0 211 y)) (he : q < μ0 205 11 → ¬ zbD (μ0 211 q)) (h15 : q - s ≤ 4 → μ 205 15 = zNum (μ0 211) s (q - s).toNat) (h14 : (q - s ≤ 4 ∧ μ 205 14 = 3) ∨ (4 < q - s ∧ μ 205 14 = 1)) : zRx μ0 μ := by
  obtain ⟨a, b, c⟩ := hp
  have ls := hd s (Int.le_refl _) hq.1
  have hr : zRun (μ0 211) (μ0 205 11) s q := ⟨hq, fun h => absurd h (by omega), fun _ => ⟨hd, he⟩, fun _ h => absurd ls h⟩
  rcases h14 with ⟨g1, g2⟩ | ⟨g1, g2⟩
  · exact ⟨hf, Or.inr ⟨s, 256, _, q, ⟨a, b, c, hr, ⟨fun h => absurd h (by omega), fun _ => Or.inl ⟨g1, rfl⟩, fun _ h => absurd ls h⟩, fun _ => rfl⟩, h13, h12, ⟨fun h => absurd h (by omega), fun h => absurd h (by omega), fun h => absurd h (by omega), fun _ => ⟨g2, h15 g1⟩, fun h => absurd h (by omega)⟩⟩⟩
  · exact ⟨hf, Or.inr ⟨s, 258, 0, q, ⟨a, b, c, hr, ⟨fun h => absurd h (by omega), fun _ => Or.inr ⟨g1, rfl⟩, fun _ h => absurd ls h⟩, fun h => absurd h (by omega)⟩, h13, h12, ⟨fun h => absurd h (by omega), fun _ => g2, fun h => absurd h (by omega), fun h => absurd h (by omega), fun h => absurd h (by omega)⟩⟩⟩
theorem zRx_s {μ0 μ : pm_Mem} {s : Int} (hf : zFr μ0 μ) (hp : zPre (μ0 211) (μ0 205 11) (μ0 205 12) s) (h13 : μ 205 13 = s) (h12 : μ 205 12 = s + 1) (n1 : ¬ zbL (μ0 211 s)) (n2 : ¬ zbD (μ0 211 s)) (h : (zbS (μ0 211 s) ∧ μ 205 14 = 4 ∧ μ 205 15 = μ0 211 s) ∨ (¬ zbS (μ0 211 s) ∧ μ 205 14 = 1)) : zRx μ0 μ := by
  obtain ⟨a, b, c⟩ := hp
  have hr : zRun (μ0 211) (μ0 205 11) s (s + 1) := ⟨⟨by omega, by omega⟩, fun h => absurd h n1, fun h => absurd h n2, fun _ _ => rfl⟩
  rcases h with ⟨g1, g2, g3⟩ | ⟨g1, g2⟩
  · exact ⟨hf, Or.inr ⟨s, μ0 211 s, 0, s + 1, ⟨a, b, c, hr, ⟨fun h => absurd h n1, fun h => absurd h n2, fun _ _ => Or.inl ⟨g1, rfl⟩⟩, fun h => absurd h (by omega)⟩, h13, h12, ⟨fun h => absurd h (by omega), fun h => absurd h (by omega), fun h => absurd h (by omega), fun h => absurd h (by omega), fun _ => ⟨g2, g3⟩⟩⟩⟩
  · exact ⟨hf, Or.inr ⟨s, 258, 0, s + 1, ⟨a, b, c, hr, ⟨fun h => absurd h n1, fun h => absurd h n2, fun _ _ => Or.inr ⟨g1, rfl⟩⟩, fun h => absurd h (by omega)⟩, h13, h12, ⟨fun h => absurd h (by omega), fun _ => g2, fun h => absurd h (by omega), fun h => absurd h (by omega), fun h => absurd h (by omega)⟩⟩⟩
theorem zTok_cg {T T' : Int → Int} {L p s k v q : Int} (e : ∀ x, 0 ≤ x → x < L → T x = T' x) (h0 : 0 ≤ p) (h : zTok T L p s k v q) : zTok T' L p s k v q := by
  obtain ⟨⟨a1, a2⟩, b, c, ⟨⟨r1, r2⟩, r3, r4, r5⟩, ⟨d1, d2, d3⟩, f⟩ := h
  have es := e s (by omega) a2
  have wm : ∀ w, zWm w T s q ↔ zWm w T' s q := fun w => ⟨fun h => ⟨h.1, fun i hi => by rw [← e (s + i) (by omega) (by have := h.1; omega)]; exact h.2 i hi⟩, fun h => ⟨h.1, fun i hi => by rw [e (s + i) (by omega) (by have := h.1; omega)]; exact h.2 i hi⟩⟩
  rw [es] at c r3 r4 r5 d1 d2 d3
  have nm : ∀ n : Nat, (n : Int) ≤ q - s → zNum T s n = zNum T' s n := fun n => by
    induction n with
    | zero => exact fun _ => rfl
    | succ n ih => intro hn; rw [zNum_s, zNum_s, ih (by omega), e (s + n) (by omega) (by omega)]
  refine ⟨⟨a1, a2⟩, fun x x0 x1 => by rw [← e x (by omega) (by omega)]; exact b x x0 x1, c, ⟨⟨r1, r2⟩, fun hl => ⟨fun x x0 x1 => by rw [← e x (by omega) (by omega)]; exact (r3 hl).1 x x0 x1, fun hq => by rw [← e q (by omega) hq]; exact (r3 hl).2 hq⟩, fun hl => ⟨fun x x0 x1 => by rw [← e x (by omega) (by omega)]; exact (r4 hl).1 x x0 x1, fun hq => by rw [← e q (by omega) hq]; exact (r4 hl).2 hq⟩, r5⟩, ⟨fun hl => ?_, d2, d3⟩, fun hk => by rw [f hk, nm _ (by omega)]⟩
  rcases d1 hl with ⟨w, w1, w2, w3⟩ | ⟨w1, w2⟩
  · exact Or.inl ⟨w, w1, w2, (wm w).mp w3⟩
  · exact Or.inr ⟨w1, fun w hw h => w2 w hw ((wm w).mpr h)⟩
/-- the next token read: the reference stands at it -/
theorem zAt_rd {T : Int → Int} {L n : Int} {K S V : Int → Int} {P : Nat → Int} {j : Nat} {μ0 μ : pm_Mem} (hx : zLex T L K S V n P) (e : ∀ x, 0 ≤ x → x < L → T x = μ0 211 x) (eL : μ0 205 11 = L) (hj : (j : Int) ≤ n) (hp : μ0 205 12 = P j) (h : zRx μ0 μ) : zAt L K S V n P j μ := by
  obtain ⟨⟨n0, n1⟩, ht, he, hK, hS, hV⟩ := id hx
  obtain ⟨hf, h⟩ := h
  have hP := zTks_P ht j hj
  have e' : ∀ x, 0 ≤ x → x < L → μ0 211 x = T x := fun x x0 x1 => (e x x0 x1).symm
  rw [eL, hp] at h
  by_cases hjn : (j : Int) < n
  · have hk := ht.2 j hjn
    rcases h with ⟨h1, -, -⟩ | ⟨s, k, v, q, h1, h2, h3, h4⟩
    · have h1' : zEnd T L (P j) := ⟨h1.1, fun x x0 x1 => by rw [e x (by omega) x1]; exact h1.2 x x0 x1⟩
      exact absurd (zTok_end hk h1') id
    · obtain ⟨d1, d2, d3, d4⟩ := zTok_det hk (zTok_cg e' (by omega) h1)
      refine ⟨hj, by rw [h2, d1], ?_, fun _ => by rw [h3, d3]⟩
      rw [d2]
      by_cases h256 : k = 256
      · rw [d4 (by rw [d2, h256])]; exact h4
      · exact ⟨h4.1, h4.2.1, h4.2.2.1, fun h => absurd h h256, h4.2.2.2.2⟩
  · have hjn : (j : Int) = n := by omega
    have he' : zEnd T L (P j) := by
      rw [show j = n.toNat by omega]
      exact he
    rcases h with ⟨-, h2, h3⟩ | ⟨s, k, v, q, h1, h2, h3, h4⟩
    · refine ⟨hj, by rw [h2, hjn, hS], ?_, fun h => absurd h (by omega)⟩
      rw [hjn, hK]
      exact ⟨fun _ => h3, fun h => absurd h (by decide), fun h => absurd h (by decide), fun h => absurd h (by decide), fun h => absurd h (by decide)⟩
    · exact absurd (zTok_end (zTok_cg e' (by omega) h1) he') id
