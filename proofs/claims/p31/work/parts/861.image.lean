/-! the image of the reference: which place keeps what -/
/-- what stands at a place of the image -/
def zIpl (p : Nat) : Nat × Nat :=
  if Nat.blt p 160 then (206, p)
  else if Nat.blt p 171 then (205, [6, 7, 33, 35, 37, 45, 52, 56, 59, 63, 67].getD (p - 160) 0)
  else if Nat.blt p 189 then (209, p - 171)
  else if Nat.blt p 237 then (221, p - 189)
  else if Nat.blt p 301 then (222, p - 237)
  else if Nat.blt p 445 then (223, p - 301)
  else if Nat.blt p 451 then (230, p - 445)
  else if Nat.blt p 455 then (232, p - 451)
  else if Nat.blt p 485 then ([234, 235, 241].getD ((p - 455) % 3) 0, (p - 455) / 3)
  else if Nat.blt p 501 then ([237, 244].getD ((p - 485) % 2) 0, (p - 485) / 2)
  else if Nat.blt p 513 then (239, p - 501)
  else if Nat.blt p 1263 then (210, p - 513)
  else if Nat.blt p 1264 then (213, 0)
  else if Nat.blt p 1328 then ([214, 215, 216, 217].getD ((p - 1264) % 4) 0, (p - 1264) / 4)
  else ([218, 219].getD ((p - 1328) % 2) 0, (p - 1328) / 2)
/-- the place of the image that keeps it -/
def zPp (r k : Nat) : Nat :=
  if Nat.beq r 206 then k
  else if Nat.beq r 205 then 160 + [6, 7, 33, 35, 37, 45, 52, 56, 59, 63, 67].idxOf k
  else if Nat.beq r 209 then 171 + k
  else if Nat.beq r 221 then 189 + k
  else if Nat.beq r 222 then 237 + k
  else if Nat.beq r 223 then 301 + k
  else if Nat.beq r 230 then 445 + k
  else if Nat.beq r 232 then 451 + k
  else if Nat.beq r 234 then 455 + 3 * k
  else if Nat.beq r 235 then 456 + 3 * k
  else if Nat.beq r 241 then 457 + 3 * k
  else if Nat.beq r 237 then 485 + 2 * k
  else if Nat.beq r 244 then 486 + 2 * k
  else if Nat.beq r 239 then 501 + k
  else if Nat.beq r 210 then 513 + k
  else if Nat.beq r 213 then 1263
  else if Nat.beq r 214 then 1264 + 4 * k
  else if Nat.beq r 215 then 1265 + 4 * k
  else if Nat.beq r 216 then 1266 + 4 * k
  else if Nat.beq r 217 then 1267 + 4 * k
  else if Nat.beq r 218 then 1328 + 2 * k
  else 1329 + 2 * k
/-- a stretch of the image holds a place -/
def zcov (q : Int × Int × Int × Int × Int) (p : Nat) : Bool := decide (q.1 ≤ p) && decide (((p : Int) - q.1) % q.2.1 = 0) && decide (((p : Int) - q.1) / q.2.1 < q.2.2.1)
noncomputable def zIplok (p : Nat) : Bool := Nat.beq (zPp (zIpl p).1 (zIpl p).2) p && Nat.blt (zIpl p).1 245 && !(Nat.beq (zIpl p).1 205 && Nat.ble 69 (zIpl p).2) && (match zRT2 (zIpl p).1 with
  | some g => Nat.blt (zIpl p).2 (sx_wd g) && (match sx_ft g (zIpl p).2 with
    | some t => Nat.beq t.1 0 && ((decide (t.2.1 = -2147483648) && decide (t.2.2 = 2147483647)) || zIts.any (fun q => zcov q p && decide (t.2.1 = q.2.2.2.1) && decide (t.2.2 = q.2.2.2.2))) && decide (-2147483648 ≤ t.2.1) && decide (t.2.2 ≤ 2147483647)
    | none => false)
  | none => false)
set_option maxRecDepth 100000 in
theorem zIpl_ok : ∀ p, p < 2128 → zIplok p = true := by decide +kernel
/-- the bounds of a stretch are those of what it keeps -/
noncomputable def zItok (q : Int × Int × Int × Int × Int) (j : Nat) : Bool := Nat.blt (q.1 + q.2.1 * (j : Int)).toNat 2128 && (match zRT2 (zIpl (q.1 + q.2.1 * (j : Int)).toNat).1 with
  | some g => (match sx_ft g (zIpl (q.1 + q.2.1 * (j : Int)).toNat).2 with
    | some t => Nat.beq t.1 0 && decide (q.2.2.2.1 ≤ t.2.1) && decide (t.2.2 ≤ q.2.2.2.2)
    | none => false)
  | none => false)
set_option maxRecDepth 100000 in
theorem zIt_ok : (zIts.all (fun q => (List.range q.2.2.1.toNat).all (fun j => zItok q j))) = true := by decide +kernel
theorem zIpl_ty {p : Nat} (hp : p < 2128) : ∃ g lo hi, zRT2 (zIpl p).1 = some g ∧ (zIpl p).1 < 245 ∧ ((zIpl p).1 = 205 → (zIpl p).2 < 69) ∧ zPp (zIpl p).1 (zIpl p).2 = p ∧ (zIpl p).2 < sx_wd g ∧ sx_ft g (zIpl p).2 = some (0, lo, hi) ∧ -2147483648 ≤ lo ∧ hi ≤ 2147483647 ∧ ((lo = -2147483648 ∧ hi = 2147483647) ∨ ∃ q ∈ zIts, ∃ j : Int, 0 ≤ j ∧ j < q.2.2.1 ∧ q.1 + q.2.1 * j = p ∧ lo = q.2.2.2.1 ∧ hi = q.2.2.2.2) := by
  have h := zIpl_ok p hp
  unfold zIplok at h
  simp only [Bool.and_eq_true] at h
  obtain ⟨⟨⟨h1, h2⟩, h3⟩, h4⟩ := h
  have h1 := Nat.eq_of_beq_eq_true h1
  have h2 := Nat.blt_eq.mp h2
  split at h4
  · rename_i g hg
    simp only [Bool.and_eq_true] at h4
    obtain ⟨h4, h5⟩ := h4
    have h4 := Nat.blt_eq.mp h4
    split at h5
    · rename_i t ht
      simp only [Bool.and_eq_true, Bool.or_eq_true, decide_eq_true_eq] at h5
      obtain ⟨⟨⟨h5, h6⟩, h7⟩, h8⟩ := h5
      have h5 := Nat.eq_of_beq_eq_true h5
      obtain ⟨t1, lo, hi⟩ := t
      have h5 : t1 = 0 := h5
      subst h5
      refine ⟨g, lo, hi, hg, h2, fun he => ?_, h1, h4, ht, h7, h8, ?_⟩
      · rw [he] at h3
        cases hb : Nat.ble 69 (zIpl p).2
        · have := mt Nat.ble_eq.mpr (Bool.eq_false_iff.mp hb)
          omega
        · rw [hb] at h3
          exact absurd h3 (by decide)
      · rcases h6 with h6 | h6
        · exact Or.inl h6
        · obtain ⟨q, hq, hz⟩ := List.any_eq_true.mp h6
          simp only [Bool.and_eq_true, decide_eq_true_eq] at hz
          obtain ⟨⟨z1, z2⟩, z3⟩ := hz
          unfold zcov at z1
          simp only [Bool.and_eq_true, decide_eq_true_eq] at z1
          obtain ⟨⟨c1, c2⟩, c3⟩ := z1
          refine Or.inr ⟨q, hq, ((p : Int) - q.1) / q.2.1, ?_, c3, ?_, z2, z3⟩
          · exact Int.ediv_nonneg (by omega) (zIts_lt q hq).2.1
          · have := Int.mul_ediv_add_emod ((p : Int) - q.1) q.2.1
            rw [c2] at this
            omega
    · cases h5
  · cases h4
def zKp (μ0 μ : pm_Mem) (n : Nat) : Prop := (n ≤ 2128) ∧ (zTy μ) ∧ (μ 205 71 = (n : Int)) ∧ (μ 205 69 = μ0 205 69) ∧ (μ0 205 69 ≠ 0 → ∀ r, r ≠ 245 → r ≠ 205 → μ r = μ0 r) ∧ (μ0 205 69 = 0 → μ 245 = μ0 245) ∧ (∀ p : Nat, p < n → μ (zIpl p).1 ((zIpl p).2 : Int) = μ 245 (p : Int))
theorem zKp.le {μ0 μ : pm_Mem} {n : Nat} (h : zKp μ0 μ n) : n ≤ 2128 := h.1
theorem zKp.ty {μ0 μ : pm_Mem} {n : Nat} (h : zKp μ0 μ n) : zTy μ := h.2.1
theorem zKp.at' {μ0 μ : pm_Mem} {n : Nat} (h : zKp μ0 μ n) : μ 205 71 = (n : Int) := h.2.2.1
theorem zKp.mo {μ0 μ : pm_Mem} {n : Nat} (h : zKp μ0 μ n) : μ 205 69 = μ0 205 69 := h.2.2.2.1
theorem zKp.tk {μ0 μ : pm_Mem} {n : Nat} (h : zKp μ0 μ n) : μ0 205 69 ≠ 0 → ∀ r, r ≠ 245 → r ≠ 205 → μ r = μ0 r := h.2.2.2.2.1
theorem zKp.bk {μ0 μ : pm_Mem} {n : Nat} (h : zKp μ0 μ n) : μ0 205 69 = 0 → μ 245 = μ0 245 := h.2.2.2.2.2.1
theorem zKp.eq {μ0 μ : pm_Mem} {n : Nat} (h : zKp μ0 μ n) : ∀ p : Nat, p < n → μ (zIpl p).1 ((zIpl p).2 : Int) = μ 245 (p : Int) := h.2.2.2.2.2.2
theorem zTy_upT {μ : pm_Mem} (hT : zTy μ) {r a n : Nat} {lo hi : Int} (h : zck r a n lo hi = true) {i x : Int} (h1 : (a : Int) ≤ i) (h2 : i < a + n) (h3 : lo ≤ x) (h4 : x ≤ hi) : zTy (pm_up μ r i x) := by
  obtain ⟨g, g1, g2, g3⟩ := zck_ok h
  obtain ⟨k1, k2⟩ := g3 i.toNat (by omega) (by omega)
  exact zTy_up hT g1 k2 (by omega) h3 h4
theorem zKp_next {μ0 μ : pm_Mem} {n r k : Nat} (hn : n < 2128) (hk : zKp μ0 μ n) (hp : zIpl n = (r, k)) {x : Int} {μ2 : pm_Mem} (h2t : zTy μ2) (h2f : ∀ r, r ≠ 205 → r ≠ 245 → μ2 r = μ r) (h25 : ∀ k, k ≠ 71 → μ2 205 k = μ 205 k) (h2a : μ2 205 71 = (n : Int) + 1) (h2i : ∀ p, p ≠ (n : Int) → μ2 245 p = μ 245 p) (h2n : μ2 245 (n : Int) = x) (hb : μ0 205 69 = 0 → μ2 245 = μ0 245) (hx : μ0 205 69 ≠ 0 → x = μ r (k : Int)) (hty : ∀ g lo hi, zRT2 r = some g → sx_ft g k = some (0, lo, hi) → (lo = -2147483648 ∧ hi = 2147483647 ∨ ∃ q ∈ zIts, ∃ j : Int, 0 ≤ j ∧ j < q.2.2.1 ∧ q.1 + q.2.1 * j = n ∧ lo = q.2.2.2.1 ∧ hi = q.2.2.2.2) → lo ≤ x ∧ x ≤ hi) : zKp μ0 (pm_up μ2 r (k : Int) x) (n + 1) := by
  obtain ⟨g, lo, hi, g1, g2, g3, g4, g5, g6, g7, g8, g9⟩ := zIpl_ty hn
  rw [hp] at g1 g2 g3 g4 g5 g6
  have g1 : zRT2 r = some g := g1
  have g2 : r < 245 := g2
  have g3 : r = 205 → k < 69 := g3
  have g4 : zPp r k = n := g4
  have g6 : sx_ft g k = some (0, lo, hi) := g6
  obtain ⟨x1, x2⟩ := hty g lo hi g1 g6 g9
  refine ⟨by omega, zTy_up h2t g1 g6 rfl x1 x2, ?_, ?_, fun hm r' hr1 hr2 => ?_, fun hm => ?_, fun p hpn => ?_⟩
  · by_cases hr : r = 205
    · subst hr
      have := g3 rfl
      rw [pm_up_ne (by omega), h2a]; omega
    · rw [pm_up_off (fun q => hr q.symm), h2a]; omega
  · by_cases hr : r = 205
    · subst hr
      have := g3 rfl
      rw [pm_up_ne (by omega), h25 69 (by decide)]; exact hk.mo
    · rw [pm_up_off (fun q => hr q.symm), h25 69 (by decide)]; exact hk.mo
  · by_cases hr : r' = r
    · subst hr
      funext i
      by_cases hi : i = (k : Int)
      · subst hi
        rw [pm_up_eq, hx hm, hk.tk hm r' hr1 hr2]
      · rw [pm_up_ne hi, h2f r' hr2 hr1, hk.tk hm r' hr1 hr2]
    · rw [pm_up_row hr, h2f r' hr2 hr1, hk.tk hm r' hr1 hr2]
  · rw [pm_up_row (by omega)]
    exact hb hm
  · rw [pm_up_off (r' := 245) (by omega)]
    by_cases he : p = n
    · subst he
      rw [hp]
      show pm_up μ2 r (k : Int) x r (k : Int) = _
      rw [pm_up_eq, h2n]
    · have hlt : p < n := by omega
      obtain ⟨g', lo', hi', q1, q2, q3, q4, q5, q6, q7, q8, q9⟩ := zIpl_ty (p := p) (by omega)
      have hne : ¬ ((zIpl p).1 = r ∧ ((zIpl p).2 : Int) = (k : Int)) := fun ⟨e1, e2⟩ => by
        have e2 : (zIpl p).2 = k := by omega
        rw [e1, e2] at q4
        omega
      have key : pm_up μ2 r (k : Int) x (zIpl p).1 ((zIpl p).2 : Int) = μ2 (zIpl p).1 ((zIpl p).2 : Int) := if_neg hne
      rw [key, h2i _ (by omega), ← hk.eq p hlt]
      by_cases hr : (zIpl p).1 = 205
      · have := q3 hr
        rw [hr, h25 _ (by omega)]
      · rw [h2f _ hr (by omega)]
theorem zKp_back {μ0 μ : pm_Mem} {n r k : Nat} (hn : n < 2128) (hk : zKp μ0 μ n) (hJ : zJ μ0) (hT0 : zTy μ0) (hp : zIpl n = (r, k)) (hm : μ0 205 69 = 0) : zKp μ0 (pm_up (pm_up μ 205 71 ((n : Int) + 1)) r (k : Int) (μ 245 (n : Int))) (n + 1) := by
  refine zKp_next hn hk hp (x := μ 245 (n : Int)) (zTy_upT hk.ty zs205_71 (by decide) (by decide) (by omega) (by omega)) (fun r h1 _ => pm_up_row h1) (fun k hk => pm_up_ne hk) (pm_up_eq _ _ _ _) (fun p _ => pm_up_off (by decide)) (pm_up_off (by decide)) (fun _ => by rw [pm_up_row (by decide)]; exact hk.bk hm) (fun h => absurd hm h) (fun g lo hi e1 e2 e3 => ?_)
  rw [hk.bk hm]
  rcases e3 with ⟨rfl, rfl⟩ | ⟨q, hq, j, j0, j1, j2, rfl, rfl⟩
  · exact zT_get ⟨hT0, hJ⟩ zs245_0 (by omega) (by omega)
  · rw [← j2]
    exact hJ.2.2.1 q hq j j0 j1
theorem zKp_take {μ0 μ : pm_Mem} {n r k : Nat} (hn : n < 2128) (hk : zKp μ0 μ n) (hp : zIpl n = (r, k)) (hm : μ0 205 69 ≠ 0) {v : Int} (hv : v = μ r (k : Int)) : zKp μ0 (pm_up (pm_up (pm_up μ 205 71 ((n : Int) + 1)) 245 (n : Int) v) r (k : Int) v) (n + 1) := by
  obtain ⟨g, lo, hi, g1, g2, g3, g4, g5, g6, g7, g8, g9⟩ := zIpl_ty hn
  rw [hp] at g1 g2 g3 g4 g5 g6
  have hv1 := zTy_at hk.ty g1 (show r < zNR from Nat.lt_trans g2 (by decide)) g5 g6 rfl
  rw [← hv] at hv1
  refine zKp_next hn hk hp (x := v) (zTy_upT (zTy_upT hk.ty zs205_71 (by decide) (by decide) (by omega) (by omega)) zs245_0 (by omega) (by omega) (by omega) (by omega)) (fun r h1 h2 => by rw [pm_up_row h2, pm_up_row h1]) (fun k hk => by rw [pm_up_off (by decide), pm_up_ne hk]) (by rw [pm_up_off (by decide), pm_up_eq]) (fun p hp => by rw [pm_up_ne hp, pm_up_off (by decide)]) (pm_up_eq _ _ _ _) (fun h => absurd h hm) (fun _ => hv) (fun g' lo' hi' e1 e2 _ => ?_)
  rw [g1] at e1
  cases e1
  rw [g6] at e2
  cases e2
  exact hv1
theorem zIpl_222 : ∀ i, i < 64 → zIpl (237 + i) = (222, i) := by decide +kernel
theorem zIpl_word : ∀ l, l < 16 → zIpl (1264 + 4 * l) = (214, l) ∧ zIpl (1264 + 4 * l + 1) = (215, l) ∧ zIpl (1264 + 4 * l + 2) = (216, l) ∧ zIpl (1264 + 4 * l + 3) = (217, l) := by decide +kernel
theorem zIpl_code : ∀ i, i < 400 → zIpl (1328 + 2 * i) = (218, i) ∧ zIpl (1328 + 2 * i + 1) = (219, i) := by decide +kernel
theorem zIpl_now : ∀ i, i < 160 → zIpl i = (206, i) := by decide +kernel
theorem zIpl_book : ∀ i, i < 750 → zIpl (513 + i) = (210, i) := by decide +kernel
theorem zIpl_209 : ∀ i, i < 18 → zIpl (171 + i) = (209, i) := by decide +kernel
theorem zIpl_221 : ∀ i, i < 48 → zIpl (189 + i) = (221, i) := by decide +kernel
theorem zIpl_223 : ∀ i, i < 144 → zIpl (301 + i) = (223, i) := by decide +kernel
theorem zIpl_230 : ∀ i, i < 6 → zIpl (445 + i) = (230, i) := by decide +kernel
theorem zIpl_232 : ∀ i, i < 4 → zIpl (451 + i) = (232, i) := by decide +kernel
theorem zIpl_err : ∀ i, i < 10 → zIpl (455 + 3 * i) = (234, i) ∧ zIpl (455 + 3 * i + 1) = (235, i) ∧ zIpl (455 + 3 * i + 2) = (241, i) := by decide +kernel
theorem zIpl_thr : ∀ i, i < 8 → zIpl (485 + 2 * i) = (237, i) ∧ zIpl (485 + 2 * i + 1) = (244, i) := by decide +kernel
theorem zIpl_239 : ∀ i, i < 12 → zIpl (501 + i) = (239, i) := by decide +kernel
theorem zKp_at {μ0 μ : pm_Mem} {n : Nat} (hk : zKp μ0 μ n) {p r k : Nat} (hp : p < n) (h : zIpl p = (r, k)) : μ r (k : Int) = μ 245 (p : Int) := by
  have := hk.eq p hp
  rw [h] at this
  exact this
/-- all kept: what holds of the guarded regions holds again -/
theorem zKp_end {μ0 μ : pm_Mem} (hk : zKp μ0 μ 2128) (hJ : zJ μ0) : zTJ μ := by
  have e213 : μ 213 0 = μ 245 1263 := zKp_at hk (p := 1263) (by decide) rfl
  have e222 : ∀ i : Int, 0 ≤ i → i < 64 → μ 222 i = μ 245 (237 + i) := fun i i0 i1 => by
    have := zKp_at hk (by omega) (zIpl_222 i.toNat (by omega))
    rw [show ((i.toNat : Nat) : Int) = i by omega, show (((237 + i.toNat : Nat)) : Int) = 237 + i by omega] at this
    exact this
  have e215 : ∀ l : Int, 0 ≤ l → l < 16 → μ 215 l = μ 245 (1265 + 4 * l) := fun l l0 l1 => by
    have := zKp_at hk (by omega) (zIpl_word l.toNat (by omega)).2.1
    rw [show ((l.toNat : Nat) : Int) = l by omega, show (((1264 + 4 * l.toNat + 1 : Nat)) : Int) = 1265 + 4 * l by omega] at this
    exact this
  have e216 : ∀ l : Int, 0 ≤ l → l < 16 → μ 216 l = μ 245 (1266 + 4 * l) := fun l l0 l1 => by
    have := zKp_at hk (by omega) (zIpl_word l.toNat (by omega)).2.2.1
    rw [show ((l.toNat : Nat) : Int) = l by omega, show (((1264 + 4 * l.toNat + 2 : Nat)) : Int) = 1266 + 4 * l by omega] at this
    exact this
  have e217 : ∀ l : Int, 0 ≤ l → l < 16 → μ 217 l = μ 245 (1267 + 4 * l) := fun l l0 l1 => by
    have := zKp_at hk (by omega) (zIpl_word l.toNat (by omega)).2.2.2
    rw [show ((l.toNat : Nat) : Int) = l by omega, show (((1264 + 4 * l.toNat + 3 : Nat)) : Int) = 1267 + 4 * l by omega] at this
    exact this
  have e218 : ∀ i : Int, 0 ≤ i → i < 400 → μ 218 i = μ 245 (1328 + 2 * i) := fun i i0 i1 => by
    have := zKp_at hk (by omega) (zIpl_code i.toNat (by omega)).1
    rw [show ((i.toNat : Nat) : Int) = i by omega, show (((1328 + 2 * i.toNat : Nat)) : Int) = 1328 + 2 * i by omega] at this
    exact this
  have e219 : ∀ i : Int, 0 ≤ i → i < 400 → μ 219 i = μ 245 (1329 + 2 * i) := fun i i0 i1 => by
    have := zKp_at hk (by omega) (zIpl_code i.toNat (by omega)).2
    rw [show ((i.toNat : Nat) : Int) = i by omega, show (((1328 + 2 * i.toNat + 1 : Nat)) : Int) = 1329 + 2 * i by omega] at this
    exact this
  refine ⟨hk.ty, ?_⟩
  by_cases hm : μ0 205 69 = 0
  · have hi := hJ.2.2
    rw [← hk.bk hm] at hi
    exact ⟨zLaw_congr e213.symm (fun l l0 l1 => (e215 l l0 l1).symm) (fun l l0 l1 => (e216 l l0 l1).symm) (fun l l0 l1 => (e217 l l0 l1).symm) (fun l l0 l1 => (e218 l l0 l1).symm) (fun l l0 l1 => (e219 l l0 l1).symm) hi.2.2, zDeeds_congr (fun i i0 i1 => (e222 i i0 i1).symm) hi.2.1, hi⟩
  · have t := hk.tk hm
    have hl : zLaw (μ 213 0) (μ 215) (μ 216) (μ 217) (μ 218) (μ 219) := by
      rw [t 213 (by decide) (by decide), t 215 (by decide) (by decide), t 216 (by decide) (by decide), t 217 (by decide) (by decide), t 218 (by decide) (by decide), t 219 (by decide) (by decide)]
      exact hJ.1
    have hd : zDeeds (μ 222) := by
      rw [t 222 (by decide) (by decide)]
      exact hJ.2.1
    refine ⟨hl, hd, fun q hq j j0 j1 => ?_, zDeeds_congr e222 hd, zLaw_congr e213 e215 e216 e217 e218 e219 hl⟩
    have h := List.all_eq_true.mp (List.all_eq_true.mp zIt_ok q hq) j.toNat (List.mem_range.mpr (by omega))
    unfold zItok at h
    rw [show ((j.toNat : Nat) : Int) = j by omega] at h
    simp only [Bool.and_eq_true] at h
    obtain ⟨h1, h2⟩ := h
    have h1 := Nat.blt_eq.mp h1
    obtain ⟨z1, z2, z3⟩ := zIts_lt q hq
    have z4 : 0 ≤ q.2.1 * j := Int.mul_nonneg z2 j0
    have hpc : (((q.1 + q.2.1 * j).toNat : Nat) : Int) = q.1 + q.2.1 * j := by omega
    obtain ⟨g, lo, hi, g1, g2, g3, g4, g5, g6, -⟩ := zIpl_ty h1
    have hv := zTy_at hk.ty g1 (Nat.lt_trans g2 (by decide)) g5 g6 rfl
    rw [hk.eq _ h1, hpc] at hv
    rw [g1] at h2
    have h2 : (match sx_ft g (zIpl (q.1 + q.2.1 * j).toNat).2 with
      | some t => Nat.beq t.1 0 && decide (q.2.2.2.1 ≤ t.2.1) && decide (t.2.2 ≤ q.2.2.2.2)
      | none => false) = true := h2
    rw [g6] at h2
    have h2 : (Nat.beq 0 0 && decide (q.2.2.2.1 ≤ lo) && decide (hi ≤ q.2.2.2.2)) = true := h2
    simp only [Bool.and_eq_true, decide_eq_true_eq] at h2
    omega
theorem zTy_get {μ : pm_Mem} (hT : zTy μ) {r a n : Nat} {lo hi : Int} (h : zck r a n lo hi = true) {i : Int} (h1 : (a : Int) ≤ i) (h2 : i < a + n) : lo ≤ μ r i ∧ μ r i ≤ hi := by
  obtain ⟨g, g1, g2, g3⟩ := zck_ok h
  obtain ⟨k1, k2⟩ := g3 i.toNat (by omega) (by omega)
  exact zTy_at hT g1 g2 k1 k2 (by omega)
theorem zKp_0 {μ : pm_Mem} (hT : zTy μ) (h : μ 205 71 = 0) : zKp μ μ 0 := ⟨by omega, hT, h, rfl, fun _ _ _ _ => rfl, fun _ => rfl, fun p hp => absurd hp (by omega)⟩
