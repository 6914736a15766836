/-! KNOWS, TRAMP: both answers -/
theorem zKn_fin {C F : Int → Int} {m : Nat} {a k x x' y : Int} (hln : zLn2 C m F) (hy : 0 ≤ y ∧ y ≤ 12) (h : zKnC (zlw C m) y a k x) (h' : zKnR (zws (zlw C m) 0) y a k x') : x = x' := zKn_eq (fun _ _ => zlw_bd hln.2.1) hy h h'
theorem zws_1 {W : Int → Int → Int} {a b : Int} : zws W 1 a b = W a b := if_neg (by decide)
theorem zTr_fin {C F : Int → Int} {m q : Nat} {y a w x x' : Int} (hln : zLn2 C m F) (hsh : zLsh C m y) (hy : 0 ≤ y ∧ y ≤ 12) (hq : (q : Int) = y)
    (h : (¬ ((0 ≤ a ∧ a < y) ∧ 0 ≤ w ∧ w ≤ 1) ∧ x = -1) ∨ ((0 ≤ a ∧ a < y) ∧ (0 ≤ w ∧ w ≤ 1) ∧ ∃ u t, x = (if w = 0 then u else t) ∧ ∃ (f : Int → Int) (M : Nat), (M : Int) + 1 = y ∧ zFwl 1000000 (zws (zlw C m) 1) y y f ∧ ∃ V : Int → Int, (∀ s, (0 ≤ s ∧ s < y) → s ≠ a → zTb 1000000 (zDd f) a (zMc a M (2 ^ M - 1)) s (V s)) ∧ ((M = 0 ∧ u = 0 ∧ t = a) ∨ (0 < M ∧ ∃ fw, zCh1 1000000 a V M fw t ∧ u = if 1000000 ≤ fw then -1 else fw))))
    (h' : (¬ ((0 ≤ a ∧ a < (q : Int)) ∧ 0 ≤ w ∧ w ≤ 1) ∧ x' = -1) ∨ ((0 ≤ a ∧ a < (q : Int)) ∧ (0 ≤ w ∧ w ≤ 1) ∧ ∃ f V b, zFwl 100000000 (zlw C m) 12 12 f ∧ (∀ s, (0 ≤ s ∧ s < (q : Int)) → s ≠ a → zTb 100000000 (zDd f) a (zMr2 a (2 ^ q - 1)) s (V s)) ∧ ((q = 1 ∧ b = a ∧ V b = 0) ∨ (1 < q ∧ zBs 100000000 (q : Int) a V b)) ∧ x' = if b = -1 ∨ w = 1 then b else V b)) : x = x' := by
  have hb : ∀ p r, 0 ≤ zlw C m p r ∧ zlw C m p r ≤ 99 := fun _ _ => zlw_bd hln.2.1
  rcases h with ⟨h1, h2⟩ | ⟨h1, h2, u, t, h3, f, M, h4, h5, V, h6, h7⟩
  · rcases h' with ⟨-, k2⟩ | ⟨k1, k2, -⟩
    · rw [h2, k2]
    · exact absurd ⟨by rw [← hq]; exact k1, k2⟩ h1
  · rcases h' with ⟨k1, -⟩ | ⟨-, -, f', V', b, k3, k4, k5, k6⟩
    · exact absurd ⟨by rw [hq]; exact h1, h2⟩ k1
    · rw [hq] at k4 k5
      exact zTr_eq (W := zws (zlw C m) 1) (W' := zlw C m) (zws_bd hb 1) (fun _ _ => zws_1) (fun p r hpr => zLsh_w hsh (by rw [zws_1] at hpr; omega)) hy.2 h1 h2 h4 h5 h6 h7 h3 hq k3 k4 k5 k6
