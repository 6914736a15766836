/-! F: THE LAW's steps reckoned: as the class does it, as the reference does it (behind lr1, lt1) -/
def fv_two (o x y : Int) : Int := if o = 2 then pm_w32 (x + y) else if o = 3 then pm_w32 (x - y) else if o = 4 then pm_w32 (x * y) else if o = 6 then (if x < y then 1 else 0) else if o = 7 then (if x = y then 1 else 0) else if o = 8 then (if y < x then 1 else 0) else if o = 10 then pm_and x y else pm_or x y
def fv_twoR (o x y : Int) : Int := if o = 2 then pm_w32 (x + y) else if o = 3 then pm_w32 (x - y) else if o = 4 then pm_w32 (x * y) else if o = 5 then Int.tdiv x y else if o = 6 then (if x < y then 1 else 0) else if o = 7 then (if x = y then 1 else 0) else if o = 8 then (if y < x then 1 else 0) else if o = 10 then pm_w32 (x * y) else (if 0 < pm_w32 (x + y) then 1 else 0)
/-- a step over what stands, the last first: the class, the reference -/
def fc_st (W : Int → Int) (x : zIw) (s : List Int) : List Int := if x.1 = 0 then x.2 :: s else if x.1 = 1 then W x.2 :: s else match s with
  | [] => []
  | a :: r => if x.1 = 5 then Int.tdiv a x.2 :: r else if x.1 = 9 then (1 - a) :: r else match r with
    | [] => [a]
    | b :: q => fv_two x.1 b a :: q
def fr_st (W : Int → Int) (x : zIw) (s : List Int) : List Int := if x.1 = 0 then x.2 :: s else if x.1 = 1 then W x.2 :: s else match s with
  | [] => []
  | a :: r => if x.1 = 9 then pm_w32 (1 - a) :: r else match r with
    | [] => [a]
    | b :: q => fv_twoR x.1 b a :: q
def fc_run (W : Int → Int) : List zIw → List Int → List Int
  | [], s => s
  | x :: L, s => fc_run W L (fc_st W x s)
def fr_run (W : Int → Int) : List zIw → List Int → List Int
  | [], s => s
  | x :: L, s => fr_run W L (fr_st W x s)
theorem fc_run_c (W : Int → Int) (x : zIw) (L : List zIw) (s : List Int) : fc_run W (x :: L) s = fc_run W L (fc_st W x s) := rfl
theorem fr_run_c (W : Int → Int) (x : zIw) (L : List zIw) (s : List Int) : fr_run W (x :: L) s = fr_run W L (fr_st W x s) := rfl
theorem fr_run_a (W : Int → Int) : ∀ (L M : List zIw) (s : List Int), fr_run W (L ++ M) s = fr_run W M (fr_run W L s)
  | [], _, _ => rfl
  | x :: L, M, s => by rw [List.cons_append, fr_run_c, fr_run_c, fr_run_a W L M]
/-- what stands is of its kind -/
def fv_ty : List Bool → List Int → Prop
  | [], [] => True
  | b :: ts, v :: s => (b = true → v = 0 ∨ v = 1) ∧ fv_ty ts s
  | [], _ :: _ => False
  | _ :: _, [] => False
theorem fv_ty_c {b : Bool} {ts : List Bool} {s : List Int} (h : fv_ty (b :: ts) s) : ∃ v r, s = v :: r ∧ (b = true → v = 0 ∨ v = 1) ∧ fv_ty ts r := by
  cases s with
  | nil => exact h.elim
  | cons v r => exact ⟨v, r, rfl, h.1, h.2⟩
theorem fv_and : ∀ x y : Int, (x = 0 ∨ x = 1) → (y = 0 ∨ y = 1) → pm_and x y = pm_w32 (x * y) ∧ (pm_and x y = 0 ∨ pm_and x y = 1) := fun x y hx hy => by
  rcases hx with rfl | rfl <;> rcases hy with rfl | rfl <;> decide +kernel
theorem fv_or : ∀ x y : Int, (x = 0 ∨ x = 1) → (y = 0 ∨ y = 1) → pm_or x y = (if 0 < pm_w32 (x + y) then 1 else 0) ∧ (pm_or x y = 0 ∨ pm_or x y = 1) := fun x y hx hy => by
  rcases hx with rfl | rfl <;> rcases hy with rfl | rfl <;> decide +kernel
theorem fv_ite {p : Prop} [Decidable p] : (if p then 1 else 0 : Int) = 0 ∨ (if p then 1 else 0 : Int) = 1 := by
  split
  · exact Or.inr rfl
  · exact Or.inl rfl
theorem fv_eq {W : Int → Int} {d : Nat} : ∀ {L : List zIw} {ts ts' : List Bool} {s : List Int}, zLt d L ts ts' → fv_ty ts s → fr_run W (zXp L) s = fc_run W L s ∧ fv_ty ts' (fc_run W L s)
  | [], ts, ts', s, h, hs => by
    rw [zLt_n] at h
    rw [h]
    exact ⟨rfl, hs⟩
  | x :: L, ts, ts', s, h, hs => by
    rw [zLt_c] at h
    rw [zXp_c, fr_run_a, fc_run_c]
    rcases h with ⟨a, b, h⟩ | ⟨a, b, c, h⟩ | ⟨a, b, c, r, e, h⟩ | ⟨a, r, e, h⟩ | ⟨a, r, e, h⟩ | ⟨a, r, e, h⟩ | ⟨a, r, e, h⟩
    · have e1 : fc_st W x s = x.2 :: s := if_pos a
      have e2 : fr_run W (zXq x) s = x.2 :: s := by rw [zXq_n (by omega)]; exact if_pos a
      rw [e1, e2]
      exact fv_eq h ⟨fun hb => absurd hb (by decide), hs⟩
    · have e1 : fc_st W x s = W x.2 :: s := (if_neg (by omega)).trans (if_pos a)
      have e2 : fr_run W (zXq x) s = W x.2 :: s := by rw [zXq_n (by omega)]; exact (if_neg (by omega)).trans (if_pos a)
      rw [e1, e2]
      exact fv_eq h ⟨fun hb => absurd hb (by decide), hs⟩
    · subst e
      obtain ⟨v, q, rfl, -, hq⟩ := fv_ty_c hs
      obtain ⟨o, n⟩ := x
      have a : o = 5 := a
      subst a
      have e1 : fc_st W (5, n) (v :: q) = Int.tdiv v n :: q := rfl
      have e2 : fr_run W (zXq (5, n)) (v :: q) = Int.tdiv v n :: q := rfl
      rw [e1, e2]
      exact fv_eq h ⟨fun hb => absurd hb (by decide), hq⟩
    · subst e
      obtain ⟨v, q, rfl, hv, hq⟩ := fv_ty_c hs
      obtain ⟨o, n⟩ := x
      have a : o = 9 := a
      subst a
      have e1 : fc_st W (9, n) (v :: q) = (1 - v) :: q := rfl
      have e2 : fr_run W (zXq (9, n)) (v :: q) = pm_w32 (1 - v) :: q := rfl
      have ew : pm_w32 (1 - v) = 1 - v := by rcases hv rfl with hv | hv <;> (rw [hv]; decide)
      rw [e1, e2, ew]
      exact fv_eq h ⟨fun _ => by have := hv rfl; omega, hq⟩
    · subst e
      obtain ⟨v, q1, rfl, -, hq1⟩ := fv_ty_c hs
      obtain ⟨u, q, rfl, -, hq⟩ := fv_ty_c hq1
      obtain ⟨o, n⟩ := x
      have a : o = 2 ∨ o = 3 ∨ o = 4 := a
      rcases a with rfl | rfl | rfl
      · exact fv_eq (s := pm_w32 (u + v) :: q) h ⟨fun hb => absurd hb (by decide), hq⟩
      · exact fv_eq (s := pm_w32 (u - v) :: q) h ⟨fun hb => absurd hb (by decide), hq⟩
      · exact fv_eq (s := pm_w32 (u * v) :: q) h ⟨fun hb => absurd hb (by decide), hq⟩
    · subst e
      obtain ⟨v, q1, rfl, -, hq1⟩ := fv_ty_c hs
      obtain ⟨u, q, rfl, -, hq⟩ := fv_ty_c hq1
      obtain ⟨o, n⟩ := x
      have a : o = 6 ∨ o = 7 ∨ o = 8 := a
      rcases a with rfl | rfl | rfl
      · exact fv_eq (s := (if u < v then 1 else 0) :: q) h ⟨fun _ => fv_ite, hq⟩
      · exact fv_eq (s := (if u = v then 1 else 0) :: q) h ⟨fun _ => fv_ite, hq⟩
      · exact fv_eq (s := (if v < u then 1 else 0) :: q) h ⟨fun _ => fv_ite, hq⟩
    · subst e
      obtain ⟨v, q1, rfl, hv, hq1⟩ := fv_ty_c hs
      obtain ⟨u, q, rfl, hu, hq⟩ := fv_ty_c hq1
      obtain ⟨o, n⟩ := x
      have a : o = 10 ∨ o = 11 := a
      rcases a with rfl | rfl
      · obtain ⟨k1, k2⟩ := fv_and u v (hu rfl) (hv rfl)
        have e1 : fc_st W (10, n) (v :: u :: q) = pm_and u v :: q := rfl
        have e2 : fr_run W (zXq (10, n)) (v :: u :: q) = pm_w32 (u * v) :: q := rfl
        rw [e1, e2, ← k1]
        exact fv_eq h ⟨fun _ => k2, hq⟩
      · obtain ⟨k1, k2⟩ := fv_or u v (hu rfl) (hv rfl)
        have e1 : fc_st W (11, n) (v :: u :: q) = pm_or u v :: q := rfl
        have e2 : fr_run W (zXq (11, n)) (v :: u :: q) = (if 0 < pm_w32 (u + v) then 1 else 0) :: q := rfl
        rw [e1, e2, ← k1]
        exact fv_eq h ⟨fun _ => k2, hq⟩
/-- what a step list comes to -/
def fv_val (W : Int → Int) (L : List zIw) : Int := (fc_run W L []).headD 0
/-- THE LAW: its lines (word, steps told, steps of the condition), the first that is so -/
def fv_tell (W : Int → Int) (w : Int) : List (Int × List zIw × List zIw) → Int → Int
  | [], without => without
  | x :: R, without => if x.1 = w ∧ (x.2.2 = [] ∨ fv_val W x.2.2 ≠ 0) then fv_val W x.2.1 else fv_tell W w R without
/-- a line's steps are of their kinds -/
def fv_ln (x : Int × List zIw × List zIw) : Prop := zLt 24 x.2.1 [] [false] ∧ (x.2.2 = [] ∨ zLt 24 x.2.2 [] [true])
theorem fv_valR {W : Int → Int} {L : List zIw} {b : Bool} (h : zLt 24 L [] [b]) : ∃ v, fc_run W L [] = [v] ∧ fr_run W (zXp L) [] = [v] ∧ fv_val W L = v := by
  obtain ⟨h1, h2⟩ := fv_eq (W := W) (s := []) h trivial
  obtain ⟨v, r, e, -, hr⟩ := fv_ty_c h2
  cases r with
  | nil => exact ⟨v, e, by rw [h1, e], by unfold fv_val; rw [e]; rfl⟩
  | cons x r => exact hr.elim
