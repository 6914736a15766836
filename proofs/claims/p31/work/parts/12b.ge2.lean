/-! sx, what two known forms together tell; a contradiction of up to three -/
def sx_ge2 (E : List sx_Ty) (C : List sx_LF) (f : sx_LF) : Bool := sx_ge E C f || (!f.2.isEmpty && C.any (fun g => C.any (fun h => sx_lo0 E (sx_sub (sx_sub f g) h))))
theorem sx_ge2_ok {Sg : Nat → Option Nat} {E : List sx_Ty} {C : List sx_LF} {ρ : List Value} (h : sx_env Sg E ρ) (hC : sx_cs C ρ) {f : sx_LF} {n : Int} (hf : sx_lf ρ f = some n) (hb : sx_ge2 E C f = true) : 0 ≤ n := by
  unfold sx_ge2 at hb
  rcases Bool.or_eq_true_iff.mp hb with hb | hb
  · exact sx_ge_ok h hC hf hb
  · obtain ⟨g, hg, hb⟩ := List.any_eq_true.mp (Bool.and_eq_true_iff.mp hb).2
    obtain ⟨k, hk, hb⟩ := List.any_eq_true.mp hb
    obtain ⟨a, h1, h2⟩ := hC g hg
    obtain ⟨b, h3, h4⟩ := hC k hk
    obtain ⟨m, h5, h6⟩ := sx_lo0_ok h hb
    rw [sx_sub_ok (sx_sub_ok hf h1) h3] at h5
    cases h5
    omega
def sx_bel (E : List sx_Ty) (f : sx_LF) : Bool := sx_lo0 E (sx_addC (sx_mul (-1) f) (-1))
theorem sx_bel_ok {Sg : Nat → Option Nat} {E : List sx_Ty} {ρ : List Value} (h : sx_env Sg E ρ) {f : sx_LF} {n : Int} (hf : sx_lf ρ f = some n) (hb : sx_bel E f = true) : n < 0 := by
  obtain ⟨m, h1, h2⟩ := sx_lo0_ok h hb
  rw [sx_addC_ok (c := -1) (sx_mul_ok (k := -1) hf)] at h1
  cases h1
  omega
/-- what is known can't be: up to three forms together are below 0 -/
def sx_bad (E : List sx_Ty) (C : List sx_LF) : Bool := C.any (fun g => sx_bel E g || C.any (fun h => sx_bel E (sx_add g h) || C.any (fun k => sx_bel E (sx_add (sx_add g h) k))))
theorem sx_bad_ok {Sg : Nat → Option Nat} {E : List sx_Ty} {C : List sx_LF} {ρ : List Value} (h : sx_env Sg E ρ) (hC : sx_cs C ρ) (hb : sx_bad E C = true) : False := by
  obtain ⟨g, hg, hb⟩ := List.any_eq_true.mp hb
  obtain ⟨a, h1, h2⟩ := hC g hg
  rcases Bool.or_eq_true_iff.mp hb with hb | hb
  · have := sx_bel_ok h h1 hb
    omega
  obtain ⟨k, hk, hb⟩ := List.any_eq_true.mp hb
  obtain ⟨b, h3, h4⟩ := hC k hk
  rcases Bool.or_eq_true_iff.mp hb with hb | hb
  · have := sx_bel_ok h (sx_add_ok h1 h3) hb
    omega
  obtain ⟨j, hj, hb⟩ := List.any_eq_true.mp hb
  obtain ⟨c, h5, h6⟩ := hC j hj
  have := sx_bel_ok h (sx_add_ok (sx_add_ok h1 h3) h5) hb
  omega
