/-! F: the class's law: its cells, its steps (behind f6) -/
theorem fc_in32 (x : Int32) : pm_in x.toInt := pm_in_mk (Int32.le_toInt x) (by have := Int32.toInt_lt x; omega)
theorem fc_and15 {v : Int} (h : pm_in v) : pm_and v 15 = v % 16 := by
  unfold pm_and
  have e : (Int32.ofInt v &&& Int32.ofInt 15).toBitVec = (Int32.ofInt v).toBitVec &&& 15#32 := by
    rw [Int32.toBitVec_and]
    rfl
  have h1 : ((Int32.ofInt v).toBitVec &&& 15#32).toNat = (Int32.ofInt v).toBitVec.toNat % 16 := by
    rw [BitVec.toNat_and, show (15#32).toNat = 2 ^ 4 - 1 from rfl, Nat.and_two_pow_sub_one_eq_mod]
  have e2 : (Int32.ofInt v &&& Int32.ofInt 15).toInt = (((Int32.ofInt v).toBitVec &&& 15#32).toNat : Int) := by
    show (Int32.ofInt v &&& Int32.ofInt 15).toBitVec.toInt = _
    rw [e, BitVec.toInt_eq_toNat_cond, if_pos (by omega)]
  have h2 : (Int32.ofInt v).toBitVec.toInt = v := pm_of32 h
  rw [BitVec.toInt_eq_toNat_cond] at h2
  rw [e2, h1]
  split at h2 <;> omega
theorem fc_cell {c : Int} {x : zIw} (e : c = x.2 * 16 + x.1) (hx : 0 ≤ x.1 ∧ x.1 ≤ 15) (hc : pm_in c) : pm_and c 15 = x.1 ∧ pm_shr c 4 = x.2 := by
  have h4 := zshr (v := c) (k := 4) (by decide) hc
  have h4 : pm_shr c 4 = c / 16 := h4
  rw [fc_and15 hc, h4]
  omega
/-- between two steps of the class: what is still to be done comes to v -/
def fc_ok (W C : Int → Int) (R : Int → Int) (top k b v : Int) : Prop := ∃ (M : List zIw) (ts : List Bool) (bb : Bool), zSg C k M ∧ k + (M.length : Int) = b ∧ zLt 24 M ts [bb] ∧ fv_ty ts (zPl_TT R top.toNat) ∧ fc_run W M (zPl_TT R top.toNat) = [v]
theorem zPl_len_TT (R : Int → Int) : ∀ n : Nat, (zPl_TT R n).length = n
  | 0 => rfl
  | n + 1 => by rw [zPl_s, List.length_cons, zPl_len_TT R n]
theorem fv_ty_l : ∀ {ts : List Bool} {s : List Int}, fv_ty ts s → ts.length = s.length
  | [], [], _ => rfl
  | b :: ts, v :: s, h => by
    rw [List.length_cons, List.length_cons, fv_ty_l h.2]
  | [], _ :: _, h => h.elim
  | _ :: _, [], h => h.elim
section FCO
variable {W C R R' : Int → Int} {top k b v z : Int}
/-- the step that is due: its kinds, by the stack's -/
def fc_due (W C R : Int → Int) (top k b v : Int) (x : zIw) : Prop := C k = x.2 * 16 + x.1 ∧ (0 ≤ x.1 ∧ x.1 ≤ 11) ∧ ((x.1 = 0 ∨ x.1 = 1) → top < 24) ∧ (x.1 = 1 → 0 ≤ x.2 ∧ x.2 ≤ 10) ∧ ((x.1 = 5 ∨ x.1 = 9) → 1 ≤ top) ∧ (x.1 = 5 → 1 ≤ x.2) ∧ (x.1 = 9 → R (top - 1) = 0 ∨ R (top - 1) = 1) ∧ (x.1 ≠ 0 → x.1 ≠ 1 → x.1 ≠ 5 → x.1 ≠ 9 → 2 ≤ top) ∧ ∀ (R' : Int → Int) (top' : Int), (x.1 = 0 → top' = top + 1 ∧ zPl_TT R' top'.toNat = x.2 :: zPl_TT R top.toNat) → (x.1 = 1 → top' = top + 1 ∧ zPl_TT R' top'.toNat = W x.2 :: zPl_TT R top.toNat) → (x.1 = 5 → top' = top ∧ zPl_TT R' top'.toNat = Int.tdiv (R (top - 1)) x.2 :: zPl_TT R (top - 1).toNat) → (x.1 = 9 → top' = top ∧ zPl_TT R' top'.toNat = (1 - R (top - 1)) :: zPl_TT R (top - 1).toNat) → (x.1 ≠ 0 → x.1 ≠ 1 → x.1 ≠ 5 → x.1 ≠ 9 → top' = top - 1 ∧ zPl_TT R' top'.toNat = fv_two x.1 (R (top - 1 - 1)) (R (top - 1)) :: zPl_TT R (top - 1 - 1).toNat) → fc_ok W C R' top' (k + 1) b v
theorem fc_pl1 (ht : 1 ≤ top) : zPl_TT R top.toNat = R (top - 1) :: zPl_TT R (top - 1).toNat := by
  rw [show top.toNat = (top - 1).toNat + 1 by omega, zPl_s, show (((top - 1).toNat : Nat) : Int) = top - 1 by omega]
theorem fc_pl2 (ht : 2 ≤ top) : zPl_TT R top.toNat = R (top - 1) :: R (top - 1 - 1) :: zPl_TT R (top - 1 - 1).toNat := by
  rw [fc_pl1 (by omega), fc_pl1 (top := top - 1) (by omega)]
theorem fc_st_9 {x : zIw} {a : Int} {r : List Int} (h : x.1 = 9) : fc_st W x (a :: r) = (1 - a) :: r := by
  unfold fc_st
  rw [if_neg (by omega), if_neg (by omega)]
  show (if x.1 = 5 then Int.tdiv a x.2 :: r else if x.1 = 9 then (1 - a) :: r else _) = _
  rw [if_neg (by omega), if_pos h]
theorem fc_st_5 {x : zIw} {a : Int} {r : List Int} (h : x.1 = 5) : fc_st W x (a :: r) = Int.tdiv a x.2 :: r := by
  unfold fc_st
  rw [if_neg (by omega), if_neg (by omega)]
  show (if x.1 = 5 then Int.tdiv a x.2 :: r else _) = _
  rw [if_pos h]
theorem fc_st_2 {x : zIw} {a c : Int} {r : List Int} (h0 : x.1 ≠ 0) (h1 : x.1 ≠ 1) (h5 : x.1 ≠ 5) (h9 : x.1 ≠ 9) : fc_st W x (a :: c :: r) = fv_two x.1 c a :: r := by
  unfold fc_st
  rw [if_neg h0, if_neg h1]
  show (if x.1 = 5 then Int.tdiv a x.2 :: (c :: r) else if x.1 = 9 then (1 - a) :: (c :: r) else _) = _
  rw [if_neg h5, if_neg h9]
theorem fc_ok_c (h : fc_ok W C R top k b v) (hk : k < b) (ht : 0 ≤ top) : ∃ x : zIw, fc_due W C R top k b v x := by
  obtain ⟨M, ts, bb, h1, h2, h3, h4, h5⟩ := h
  cases M with
  | nil =>
    rw [List.length_nil] at h2
    omega
  | cons x M =>
    rw [List.length_cons] at h2
    have h0 := h1 0 x rfl
    rw [show k + ((0 : Nat) : Int) = k by omega] at h0
    have hM : zSg C (k + 1) M := by
      have := zSg_r (L := [x]) (M := M) h1
      rw [show k + (([x] : List zIw).length : Int) = k + 1 by simp] at this
      exact this
    have hl := fv_ty_l h4
    rw [zPl_len_TT] at hl
    rw [fc_run_c] at h5
    rw [zLt_c] at h3
    refine ⟨x, h0, ?_⟩
    rcases h3 with ⟨a, b1, h3⟩ | ⟨a, b1, c1, h3⟩ | ⟨a, b1, c1, r, e, h3⟩ | ⟨a, r, e, h3⟩ | ⟨a, r, e, h3⟩ | ⟨a, r, e, h3⟩ | ⟨a, r, e, h3⟩
    · refine ⟨by omega, fun _ => by omega, fun c => by omega, fun c => by omega, fun c => by omega, fun c => by omega, fun c => absurd a c, fun R' top' g0 _ _ _ _ => ?_⟩
      obtain ⟨e1, e2⟩ := g0 a
      refine ⟨M, _, bb, hM, by omega, h3, ?_, ?_⟩
      · rw [e2]
        exact ⟨fun c => absurd c (by decide), h4⟩
      · rw [e2]
        rw [show fc_st W x (zPl_TT R top.toNat) = x.2 :: zPl_TT R top.toNat from if_pos a] at h5
        exact h5
    · refine ⟨by omega, fun _ => by omega, fun _ => b1, fun c => by omega, fun c => by omega, fun c => by omega, fun _ c => absurd a c, fun R' top' _ g0 _ _ _ => ?_⟩
      obtain ⟨e1, e2⟩ := g0 a
      refine ⟨M, _, bb, hM, by omega, h3, ?_, ?_⟩
      · rw [e2]
        exact ⟨fun c => absurd c (by decide), h4⟩
      · rw [e2]
        rw [show fc_st W x (zPl_TT R top.toNat) = W x.2 :: zPl_TT R top.toNat from (if_neg (by omega)).trans (if_pos a)] at h5
        exact h5
    · subst e
      rw [List.length_cons] at hl
      have hp := fc_pl1 (R := R) (top := top) (by omega)
      rw [hp] at h4 h5
      rw [fc_st_5 a] at h5
      refine ⟨by omega, fun c => by omega, fun c => by omega, fun _ => by omega, fun _ => b1, fun c => by omega, fun _ _ c => absurd a c, fun R' top' _ _ g0 _ _ => ?_⟩
      obtain ⟨e1, e2⟩ := g0 a
      refine ⟨M, _, bb, hM, by omega, h3, ?_, ?_⟩
      · rw [e2]
        exact ⟨fun c => absurd c (by decide), h4.2⟩
      · rw [e2]
        exact h5
    · subst e
      rw [List.length_cons] at hl
      have hp := fc_pl1 (R := R) (top := top) (by omega)
      rw [hp] at h4 h5
      rw [fc_st_9 a] at h5
      have hv := h4.1 rfl
      refine ⟨by omega, fun c => by omega, fun c => by omega, fun _ => by omega, fun c => by omega, fun _ => hv, fun _ _ _ c => absurd a c, fun R' top' _ _ _ g0 _ => ?_⟩
      obtain ⟨e1, e2⟩ := g0 a
      refine ⟨M, _, bb, hM, by omega, h3, ?_, ?_⟩
      · rw [e2]
        exact ⟨fun _ => by omega, h4.2⟩
      · rw [e2]
        exact h5
    all_goals
      subst e
      rw [List.length_cons, List.length_cons] at hl
      have hp := fc_pl2 (R := R) (top := top) (by omega)
      rw [hp] at h4 h5
      have a0 : x.1 ≠ 0 ∧ x.1 ≠ 1 ∧ x.1 ≠ 5 ∧ x.1 ≠ 9 ∧ 0 ≤ x.1 ∧ x.1 ≤ 11 := by omega
      obtain ⟨a0, a1, a5, a9, a10, a11⟩ := a0
      rw [fc_st_2 a0 a1 a5 a9] at h5
      refine ⟨⟨a10, a11⟩, fun c => by omega, fun c => by omega, fun c => by omega, fun c => by omega, fun c => by omega, fun _ _ _ _ => by omega, fun R' top' _ _ _ _ g0 => ?_⟩
      obtain ⟨e1, e2⟩ := g0 a0 a1 a5 a9
      refine ⟨M, _, bb, hM, by omega, h3, ?_, ?_⟩
    · rw [e2]
      exact ⟨fun c => absurd c (by decide), h4.2.2⟩
    · rw [e2]
      exact h5
    · rw [e2]
      refine ⟨fun _ => ?_, h4.2.2⟩
      unfold fv_two
      rw [if_neg (by omega), if_neg (by omega), if_neg (by omega)]
      split
      · exact fv_ite
      · split
        · exact fv_ite
        · rw [if_pos (by omega)]
          exact fv_ite
    · rw [e2]
      exact h5
    · rw [e2]
      have k1 := fv_and _ _ (h4.2.1 rfl) (h4.1 rfl)
      have k2 := fv_or _ _ (h4.2.1 rfl) (h4.1 rfl)
      refine ⟨fun _ => ?_, h4.2.2⟩
      unfold fv_two
      rw [if_neg (by omega), if_neg (by omega), if_neg (by omega), if_neg (by omega), if_neg (by omega), if_neg (by omega)]
      split
      · exact k1.2
      · exact k2.2
    · rw [e2]
      exact h5
theorem fc_plu {μ μ' : pm_Mem} (e : μ' = pm_up μ 179 top z) (ht : 0 ≤ top) : zPl_TT (μ' 179) (top + 1).toNat = z :: zPl_TT (μ 179) top.toNat := by
  rw [show (top + 1).toNat = top.toNat + 1 by omega, zPl_s, show ((top.toNat : Nat) : Int) = top by omega, e, pm_up_eq]
  congr 1
  exact zPl_cg (fun i i0 i1 => pm_up_ne (by omega))
theorem fc_plt {μ μ' : pm_Mem} {j : Int} (e : μ' = pm_up μ 179 j z) (hj : j = top - 1) (ht : 1 ≤ top) : zPl_TT (μ' 179) top.toNat = z :: zPl_TT (μ 179) (top - 1).toNat := by
  subst hj
  have h := fc_plu e (by omega)
  rw [show top - 1 + 1 = top by omega] at h
  exact h
theorem fc_plv {μ μ' : pm_Mem} {j t : Int} (e : μ' = pm_up μ 179 j z) (hj : j = top - 1 - 1) (ht : 2 ≤ top) (hq : t = top - 1) : zPl_TT (μ' 179) t.toNat = z :: zPl_TT (μ 179) (top - 1 - 1).toNat := by
  subst hj
  subst hq
  have h := fc_plu e (by omega)
  rw [show top - 1 - 1 + 1 = top - 1 by omega] at h
  exact h
theorem fc_ok_e (h : fc_ok W C R top k b v) (hk : k = b) (ht : 0 ≤ top) : top = 1 ∧ R 0 = v := by
  obtain ⟨M, ts, bb, h1, h2, h3, h4, h5⟩ := h
  cases M with
  | cons x M =>
    rw [List.length_cons] at h2
    omega
  | nil =>
    rw [zLt_n] at h3
    have hl := fv_ty_l h4
    rw [zPl_len_TT, ← h3] at hl
    have ht1 : top = 1 := by
      rw [List.length_cons, List.length_nil] at hl
      omega
    subst ht1
    have h5 : [R 0] = [v] := h5
    exact ⟨rfl, (List.cons.inj h5).1⟩
/-- a whole list of steps -/
theorem fc_ok_0 {L : List zIw} {bb : Bool} (hL : zLt 24 L [] [bb]) (hs : zSg C k L) (hl : k + (L.length : Int) = b) : fc_ok W C R 0 k b (fv_val W L) := by
  obtain ⟨u, e1, -, e3⟩ := fv_valR (W := W) hL
  exact ⟨L, [], bb, hs, hl, hL, trivial, by rw [e3]; exact e1⟩
end FCO
/-- the lines from the k-th on, as they lie in the class's text at r -/
def fc_L (n : Int) (C S : Int → Int) : Int → List (Int × List zIw × List zIw) → Prop
  | k, [] => k = n
  | k, x :: R => k < n ∧ C (k * 4 + 0) = x.1 + 300 ∧ (0 ≤ C (k * 4 + 1) ∧ zSg S (C (k * 4 + 1)) x.2.1 ∧ C (k * 4 + 1) + (x.2.1.length : Int) = C (k * 4 + 2)) ∧ (zSg S (C (k * 4 + 2)) x.2.2 ∧ C (k * 4 + 2) + (x.2.2.length : Int) = C (k * 4 + 3)) ∧ C (k * 4 + 3) ≤ 400 ∧ fv_ln x ∧ fc_L n C S (k + 1) R
theorem fc_L_c (n : Int) (C S : Int → Int) (k : Int) (x : Int × List zIw × List zIw) (R : List (Int × List zIw × List zIw)) : fc_L n C S k (x :: R) = (k < n ∧ C (k * 4 + 0) = x.1 + 300 ∧ (0 ≤ C (k * 4 + 1) ∧ zSg S (C (k * 4 + 1)) x.2.1 ∧ C (k * 4 + 1) + (x.2.1.length : Int) = C (k * 4 + 2)) ∧ (zSg S (C (k * 4 + 2)) x.2.2 ∧ C (k * 4 + 2) + (x.2.2.length : Int) = C (k * 4 + 3)) ∧ C (k * 4 + 3) ≤ 400 ∧ fv_ln x ∧ fc_L n C S (k + 1) R) := rfl
theorem fc_L_cg {n n' : Int} {C C' S S' : Int → Int} (hn : n' = n) (hC : ∀ i : Int, 0 ≤ i → i < 4 * n → C' i = C i) (hS : ∀ i : Int, 0 ≤ i → i < 400 → S' i = S i) : ∀ {R : List (Int × List zIw × List zIw)} {k : Int}, 0 ≤ k → fc_L n C S k R → fc_L n' C' S' k R
  | [], k, _, h => by
    have h : k = n := h
    show k = n'
    omega
  | x :: R, k, k0, h => by
    rw [fc_L_c] at h
    obtain ⟨h1, h2, ⟨h30, h31, h32⟩, ⟨h41, h42⟩, h5, h6, h7⟩ := h
    have c0 := hC (k * 4 + 0) (by omega) (by omega)
    have c1 := hC (k * 4 + 1) (by omega) (by omega)
    have c2 := hC (k * 4 + 2) (by omega) (by omega)
    have c3 := hC (k * 4 + 3) (by omega) (by omega)
    rw [fc_L_c, c0, c1, c2, c3]
    exact ⟨by omega, h2, ⟨h30, zSg_cg h31 (fun i i0 i1 => hS i (by omega) (by omega)), h32⟩, ⟨zSg_cg h41 (fun i i0 i1 => hS i (by omega) (by omega)), h42⟩, h5, h6, fc_L_cg hn hC hS (by omega) h7⟩
theorem fc_L_ln {n : Int} {C S : Int → Int} : ∀ {R : List (Int × List zIw × List zIw)} {k : Int}, fc_L n C S k R → ∀ x ∈ R, fv_ln x
  | [], _, _, x, hx => by cases hx
  | y :: R, k, h, x, hx => by
    rw [fc_L_c] at h
    rcases List.mem_cons.mp hx with e | e
    · rw [e]
      exact h.2.2.2.2.2.1
    · exact fc_L_ln h.2.2.2.2.2.2 x e
/-- k lines don't tell: what is left does; the k-th tells -/
def fc_rest (W : Int → Int) (n : Int) (C S : Int → Int) (w k : Int) (ls : List (Int × List zIw × List zIw)) : Prop := ∃ R, fc_L n C S k R ∧ ∀ o : Int, fv_tell W w ls o = fv_tell W w R o
section FCR
variable {W C S : Int → Int} {n w k : Int} {ls : List (Int × List zIw × List zIw)}
theorem fc_rest_0 (h : fc_L n C S 0 ls) : fc_rest W n C S w 0 ls := ⟨ls, h, fun _ => rfl⟩
theorem fc_rest_e (h : fc_rest W n C S w k ls) (hk : ¬ k < n) : ∀ o : Int, fv_tell W w ls o = o := by
  obtain ⟨R, h1, h2⟩ := h
  cases R with
  | nil => exact h2
  | cons x R =>
    rw [fc_L_c] at h1
    exact absurd h1.1 hk
theorem fc_rest_c (h : fc_rest W n C S w k ls) (hk : k < n) : ∃ x R, fc_L n C S k (x :: R) ∧ ∀ o : Int, fv_tell W w ls o = fv_tell W w (x :: R) o := by
  obtain ⟨R, h1, h2⟩ := h
  cases R with
  | nil =>
    have e : k = n := h1
    exact absurd hk (by omega)
  | cons x R => exact ⟨x, R, h1, h2⟩
/-- the k-th line: how its word, its condition, what it tells stand -/
theorem fc_rest_w (h : fc_rest W n C S w k ls) (hk : k < n) (hw : C (k * 4 + 0) ≠ w + 300) : fc_rest W n C S w (k + 1) ls := by
  obtain ⟨x, R, h1, h2⟩ := fc_rest_c h hk
  rw [fc_L_c] at h1
  exact ⟨R, h1.2.2.2.2.2.2, fun o => (h2 o).trans (fv_tell_n (fun c => hw (by have := c.1; have := h1.2.1; omega)))⟩
theorem fc_rest_f (h : fc_rest W n C S w k ls) (hk : k < n) (hw : C (k * 4 + 0) = w + 300) (he : C (k * 4 + 2) = C (k * 4 + 3)) : ∃ v : Int, (∀ o : Int, fv_tell W w ls o = v) ∧ ∀ R, fc_ok W S R 0 (C (k * 4 + 1)) (C (k * 4 + 2)) v := by
  obtain ⟨x, R, h1, h2⟩ := fc_rest_c h hk
  rw [fc_L_c] at h1
  obtain ⟨-, a2, ⟨-, b1, b2⟩, ⟨c1, c2⟩, -, ⟨d1, d2⟩, -⟩ := h1
  have e0 : x.2.2 = [] := List.length_eq_zero_iff.mp (by omega)
  exact ⟨_, fun o => (h2 o).trans (fv_tell_y ⟨by omega, Or.inl e0⟩), fun R => fc_ok_0 d1 b1 b2⟩
theorem fc_rest_q (h : fc_rest W n C S w k ls) (hk : k < n) (hw : C (k * 4 + 0) = w + 300) (he : C (k * 4 + 2) ≠ C (k * 4 + 3)) : ∃ v : Int, (∀ R, fc_ok W S R 0 (C (k * 4 + 2)) (C (k * 4 + 3)) v) ∧ (v = 0 → fc_rest W n C S w (k + 1) ls) ∧ (v ≠ 0 → ∃ u : Int, (∀ o : Int, fv_tell W w ls o = u) ∧ ∀ R, fc_ok W S R 0 (C (k * 4 + 1)) (C (k * 4 + 2)) u) := by
  obtain ⟨x, R, h1, h2⟩ := fc_rest_c h hk
  rw [fc_L_c] at h1
  obtain ⟨-, a2, ⟨-, b1, b2⟩, ⟨c1, c2⟩, -, ⟨d1, d2⟩, a6⟩ := h1
  have d3 : x.2.2 ≠ [] := fun c => by
    rw [c, List.length_nil] at c2
    omega
  have d4 := d2.resolve_left d3
  exact ⟨_, fun R => fc_ok_0 d4 c1 c2, fun hv => ⟨R, a6, fun o => (h2 o).trans (fv_tell_n (fun c => c.2.elim d3 (fun n => n hv)))⟩, fun hv => ⟨_, fun o => (h2 o).trans (fv_tell_y ⟨by omega, Or.inr hv⟩), fun R => fc_ok_0 d1 b1 b2⟩⟩
theorem fc_rest_b (h : fc_rest W n C S w k ls) (hk : k < n) : (0 ≤ C (k * 4 + 1) ∧ C (k * 4 + 1) ≤ C (k * 4 + 2) ∧ C (k * 4 + 2) ≤ C (k * 4 + 3)) ∧ C (k * 4 + 3) ≤ 400 := by
  obtain ⟨x, R, h1, -⟩ := fc_rest_c h hk
  rw [fc_L_c] at h1
  obtain ⟨-, -, ⟨b0, -, b2⟩, ⟨-, c2⟩, d, -, -⟩ := h1
  omega
end FCR
/-! what is asked of the law: its word told by the class's number -/
def fa_ask (t : fa_Lw) (N pol : Int → Int) (m w c s : Int) : Int := if w = 300 then fa_buys t N pol m c s else if w = 301 then fa_yields t N pol m c s else fa_costs t N pol m c s
theorem fa_ask_0 {t : fa_Lw} {N pol : Int → Int} {m c s : Int} : fa_ask t N pol m 300 c s = fa_buys t N pol m c s := if_pos rfl
theorem fa_ask_1 {t : fa_Lw} {N pol : Int → Int} {m c s : Int} : fa_ask t N pol m 301 c s = fa_yields t N pol m c s := (if_neg (by decide)).trans (if_pos rfl)
theorem fa_ask_2 {t : fa_Lw} {N pol : Int → Int} {m c s : Int} : fa_ask t N pol m 302 c s = fa_costs t N pol m c s := (if_neg (by decide)).trans (if_neg (by decide))
/-- what it is if no line tells -/
def fa_unt (N pol : Int → Int) (w c s : Int) : Int := if w = 300 then 600 - 40 * N 1 else if w = 301 then 100 * pol c else N (16 + s)
theorem fa_held_m {x hi : Int} (h : 0 ≤ hi) : fa_held x 0 hi = max 0 (min x hi) := by
  unfold fa_held
  split
  · omega
  · split <;> omega
theorem fa_ask_e {ls : List (Int × List zIw × List zIw)} {N pol W : Int → Int} {m w c s x n : Int} {C S : Int → Int} (hL : fc_L n C S 0 ls) (hW : ∀ i : Int, 0 ≤ i → i ≤ 10 → W i = fa_W N pol m c s i) (hw : w = 300 ∨ w = 301 ∨ w = 302) (hx : x = fv_tell W (w - 300) ls (fa_unt N pol w c s)) : max 0 (min x (if w = 302 then 999 else 1000)) = fa_ask (fr_law ls) N pol m w c s := by
  rw [fv_tell_cg hW (fc_L_ln hL)] at hx
  rcases hw with rfl | rfl | rfl
  · rw [fa_ask_0, if_neg (by decide), hx, ← fa_held_m (by decide)]
    rfl
  · rw [fa_ask_1, if_neg (by decide), hx, ← fa_held_m (by decide)]
    rfl
  · rw [fa_ask_2, if_pos rfl, hx, ← fa_held_m (by decide)]
    rfl
theorem fc_L_0 {n : Int} {C S : Int → Int} {ls : List (Int × List zIw × List zIw)} (h : fc_L n C S 0 ls) : 0 ≤ n := by
  cases ls with
  | nil =>
    have h : (0 : Int) = n := h
    omega
  | cons x R =>
    rw [fc_L_c] at h
    omega
section FCW
variable {o x y : Int}
theorem fv_C2 (h : o = 2) : fv_two o x y = pm_w32 (x + y) := if_pos h
theorem fv_C3 (h : o = 3) : fv_two o x y = pm_w32 (x - y) := by unfold fv_two; rw [if_neg (by omega), if_pos h]
theorem fv_C4 (h : o = 4) : fv_two o x y = pm_w32 (x * y) := by unfold fv_two; rw [if_neg (by omega), if_neg (by omega), if_pos h]
theorem fv_C6 (h : o = 6) : fv_two o x y = if x < y then 1 else 0 := by unfold fv_two; rw [if_neg (by omega), if_neg (by omega), if_neg (by omega), if_pos h]
theorem fv_C7 (h : o = 7) : fv_two o x y = if x = y then 1 else 0 := by unfold fv_two; rw [if_neg (by omega), if_neg (by omega), if_neg (by omega), if_neg (by omega), if_pos h]
theorem fv_C8 (h : o = 8) : fv_two o x y = if y < x then 1 else 0 := by unfold fv_two; rw [if_neg (by omega), if_neg (by omega), if_neg (by omega), if_neg (by omega), if_neg (by omega), if_pos h]
theorem fv_C10 (h : o = 10) : fv_two o x y = pm_and x y := by unfold fv_two; rw [if_neg (by omega), if_neg (by omega), if_neg (by omega), if_neg (by omega), if_neg (by omega), if_neg (by omega), if_pos h]
theorem fv_C11 (h2 : o ≠ 2) (h3 : o ≠ 3) (h4 : o ≠ 4) (h6 : o ≠ 6) (h7 : o ≠ 7) (h8 : o ≠ 8) (h10 : o ≠ 10) : fv_two o x y = pm_or x y := by unfold fv_two; rw [if_neg h2, if_neg h3, if_neg h4, if_neg h6, if_neg h7, if_neg h8, if_neg h10]
end FCW
