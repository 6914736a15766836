/-! F: the reference keeps, goes back, thinks (behind f13) -/
set_option maxRecDepth 100000 in
theorem fs_zg8 : zRT2 208 = some zG208 := rfl
set_option maxRecDepth 100000 in
theorem fs_gt8 : zG208.2.2.2 = zG206.2.2.2 := by decide +kernel
theorem fs_ft8 (k : Nat) : sx_ft zG208 k = zG206.2.2.2[k % 160]? := by
  unfold sx_ft
  rw [if_neg (show ¬ zG208.1 = 0 from Nat.one_ne_zero), fs_gt8, zgl6]
theorem fs_z67 {φ : Option pm_Mem} {μ : pm_Mem} (hT : zTJ φ μ) {k z : Int} (h0 : 0 ≤ k) (h1 : k < 160) (h2 : 0 ≤ z) (h3 : z < 6) : zTJ φ (pm_up μ 206 k (μ 207 (160 * z + k))) :=
  zT_cpy hT (k := k.toNat) (k' := 160 * z.toNat + k.toNat) zg206 zg207 (by decide) (show 160 * z.toNat + k.toNat < 960 by omega) (by rw [zft6, zft7, Nat.mul_add_mod]) rfl (by omega) (by omega)
theorem fs_z86 {φ : Option pm_Mem} {μ : pm_Mem} (hT : zTJ φ μ) {k : Int} (h0 : 0 ≤ k) (h1 : k < 160) : zTJ φ (pm_up μ 208 k (μ 206 k)) :=
  zT_cpy hT (k := k.toNat) (k' := k.toNat) fs_zg8 zg206 (by decide) (show k.toNat < 160 by omega) (by rw [fs_ft8, zft6]) rfl (by omega) (by omega)
theorem fs_z68 {φ : Option pm_Mem} {μ : pm_Mem} (hT : zTJ φ μ) {k : Int} (h0 : 0 ≤ k) (h1 : k < 160) : zTJ φ (pm_up μ 206 k (μ 208 k)) :=
  zT_cpy hT (k := k.toNat) (k' := k.toNat) zg206 fs_zg8 (by decide) (show k.toNat < 160 by omega) (by rw [zft6, fs_ft8]) rfl (by omega) (by omega)
section FS1
variable {μ μ' : pm_Mem} {Q N : Int → Int} {k b x : Int}
theorem fs_k1 (h : ∀ i : Int, μ 207 i = if 0 ≤ i ∧ i < k then Q (i + 160) else Q i) (hk : 0 ≤ k) (e : μ' = pm_up μ 207 k (μ 207 (k + 160))) : ∀ i : Int, μ' 207 i = if 0 ≤ i ∧ i < k + 1 then Q (i + 160) else Q i := fun i => by
  have hx := h (k + 160)
  rw [if_neg (by omega)] at hx
  rw [hx] at e
  by_cases hi : i = k
  · rw [hi, e, pm_up_eq, if_pos ⟨hk, by omega⟩]
  · rw [e, pm_up_ne hi, h i]
    by_cases hc : 0 ≤ i ∧ i < k
    · rw [if_pos hc, if_pos ⟨hc.1, by omega⟩]
    · rw [if_neg hc, if_neg (by omega)]
theorem fs_k2 {r : Nat} {j : Int} (h : ∀ i : Int, μ r i = if b ≤ i ∧ i < b + k then N (i - b) else Q i) (e : μ' = pm_up μ r j x) (hj : j = b + k) (hx : x = N k) (hk : 0 ≤ k) : ∀ i : Int, μ' r i = if b ≤ i ∧ i < b + (k + 1) then N (i - b) else Q i := fun i => by
  by_cases hi : i = j
  · rw [hi, e, pm_up_eq, if_pos ⟨by omega, by omega⟩, hx, show j - b = k by omega]
  · rw [e, pm_up_ne hi, h i]
    by_cases hc : b ≤ i ∧ i < b + k
    · rw [if_pos hc, if_pos ⟨hc.1, by omega⟩]
    · rw [if_neg hc, if_neg (by omega)]
theorem fs_kQ {u : Int} (hu : u ≠ 6) (h : ∀ i : Int, μ 207 i = if 160 * u ≤ i ∧ i < 160 * u + 160 then N (i - 160 * u) else Q i) : μ 207 = fa_kQ Q u N := funext fun i => by
  rw [h i]
  unfold fa_kQ
  rw [if_neg hu]
theorem fs_kQ6 {Q1 : Int → Int} (h1 : ∀ i : Int, Q1 i = if 0 ≤ i ∧ i < 800 then Q (i + 160) else Q i) (h : ∀ i : Int, μ 207 i = if 160 * 5 ≤ i ∧ i < 160 * 5 + 160 then N (i - 160 * 5) else Q1 i) : μ 207 = fa_kQ Q 6 N := funext fun i => by
  rw [h i]
  unfold fa_kQ
  rw [if_pos rfl, h1 i]
  rfl
end FS1
/-- a shop's places made empty -/
def fs_zS (N : Int → Int) (n : Int) : Nat → Int → Int
  | 0 => N
  | t + 1 => fa_up (fs_zS N n t) (4 + 12 * (t : Int) + n) 0
theorem fs_zS_s {N : Int → Int} {n : Int} {t : Nat} : fs_zS N n (t + 1) = fa_up (fs_zS N n t) (4 + 12 * (t : Int) + n) 0 := rfl
theorem fs_zS_7 {N : Int → Int} {n g p : Int} : fa_up (fa_up (fs_zS N n 7) (4 + n) g) (16 + n) p = fa_addS N n g p := by
  unfold fa_addS
  rw [fs_zS_s, fs_zS_s, fs_zS_s, fs_zS_s, fs_zS_s, fs_zS_s, fs_zS_s, show 4 + 12 * ((0 : Nat) : Int) + n = 4 + n by omega, show 4 + 12 * ((1 : Nat) : Int) + n = 16 + n by omega, show 4 + 12 * ((2 : Nat) : Int) + n = 28 + n by omega, show 4 + 12 * ((3 : Nat) : Int) + n = 40 + n by omega, show 4 + 12 * ((4 : Nat) : Int) + n = 52 + n by omega, show 4 + 12 * ((5 : Nat) : Int) + n = 64 + n by omega, show 4 + 12 * ((6 : Nat) : Int) + n = 76 + n by omega]
  rfl
def fs_zC (N : Int → Int) (m : Int) : Nat → Int → Int
  | 0 => N
  | t + 1 => fa_up (fs_zC N m t) (88 + 18 * (t : Int) + m) 0
theorem fs_zC_s {N : Int → Int} {m : Int} {t : Nat} : fs_zC N m (t + 1) = fa_up (fs_zC N m t) (88 + 18 * (t : Int) + m) 0 := rfl
theorem fs_zC_4 {N : Int → Int} {m v : Int} : fa_up (fs_zC N m 4) (88 + m) v = fa_addC N m v := by
  unfold fa_addC
  rw [fs_zC_s, fs_zC_s, fs_zC_s, fs_zC_s, show 88 + 18 * ((0 : Nat) : Int) + m = 88 + m by omega, show 88 + 18 * ((1 : Nat) : Int) + m = 106 + m by omega, show 88 + 18 * ((2 : Nat) : Int) + m = 124 + m by omega, show 88 + 18 * ((3 : Nat) : Int) + m = 142 + m by omega]
  rfl
/-- what SET sets -/
def fa_setP (n m w c v : Int) : Prop := (w = 0 ∧ (0 ≤ c ∧ c < n) ∧ 1 ≤ v ∧ v ≤ 99) ∨ (w = 1 ∧ (0 ≤ c ∧ c < m) ∧ 0 ≤ v ∧ v ≤ 9999) ∨ (w = 2 ∧ (0 ≤ c ∧ c < m) ∧ 0 ≤ v ∧ v ≤ 9)
def fa_setN (N : Int → Int) (w c v : Int) : Int → Int := if w = 0 then fa_up N (16 + c) v else if w = 1 then fa_up N (88 + c) v else N
def fa_setL (pol : Int → Int) (w c v : Int) : Int → Int := if w = 2 then fa_up pol c v else pol
section FS2
variable {N pol : Int → Int} {c v : Int}
theorem fa_setN_0 : fa_setN N 0 c v = fa_up N (16 + c) v := if_pos rfl
theorem fa_setN_1 : fa_setN N 1 c v = fa_up N (88 + c) v := (if_neg (by decide)).trans (if_pos rfl)
theorem fa_setN_2 : fa_setN N 2 c v = N := (if_neg (by decide)).trans (if_neg (by decide))
theorem fa_setL_0 : fa_setL pol 0 c v = pol := if_neg (by decide)
theorem fa_setL_1 : fa_setL pol 1 c v = pol := if_neg (by decide)
theorem fa_setL_2 : fa_setL pol 2 c v = fa_up pol c v := if_pos rfl
theorem fa_K_set {n m w : Int} (hq : n ≤ 12 ∧ m ≤ 18) (h : fa_setP n m w c v) : fa_K n m N (fa_setN N w c v) := by
  rcases h with ⟨rfl, h1, h2⟩ | ⟨rfl, h1, h2⟩ | ⟨rfl, h1, h2⟩
  · rw [fa_setN_0]
    exact fa_K_u hq (by omega) (fun _ => fa_Iv_4 ⟨by omega, by omega⟩ ⟨by omega, by omega⟩)
  · rw [fa_setN_1]
    exact fa_K_u hq (by omega) (fun _ => fa_Iv_88 ⟨by omega, by omega⟩ h2)
  · rw [fa_setN_2]
    exact fa_K_0
end FS2
/-- what is summed -/
def fa_add (N : Int → Int) (b : Int) : Nat → Int
  | 0 => 0
  | k + 1 => pm_w32 (fa_add N b k + N (b + (k : Int)))
theorem fa_add_s {N : Int → Int} {b : Int} {k : Nat} : fa_add N b (k + 1) = pm_w32 (fa_add N b k + N (b + (k : Int))) := rfl
theorem fa_dids_b {th : Bool} {t : fa_Lw} {pol : Int → Int} {m : Int} : ∀ (k : Nat) {S : fa_St}, 0 ≤ fa_dids th t pol m k S ∧ fa_dids th t pol m k S ≤ (k : Int)
  | 0, _ => ⟨Int.le_refl _, Int.le_refl _⟩
  | k + 1, S => by
    rw [fa_dids_s]
    have h := fa_dids_b k (th := th) (t := t) (pol := pol) (m := m) (S := S)
    have h2 : 0 ≤ fa_did th t pol m (k : Int) (fa_turns th t pol m k S) ∧ fa_did th t pol m (k : Int) (fa_turns th t pol m k S) ≤ 1 := by
      unfold fa_did
      split <;> omega
    omega
theorem fa_many_b {th : Bool} {t : fa_Lw} {R D pol : Int → Int} {rn dn n m : Int} {S : fa_St} (hm : 0 ≤ m ∧ m ≤ 18) : 0 ≤ fa_many th t R D pol rn dn n m S ∧ fa_many th t R D pol rn dn n m S ≤ 18 := by
  unfold fa_many
  have := fa_dids_b m.toNat (th := th) (t := t) (pol := pol) (m := m) (S := fa_to th R D rn dn n S)
  omega
theorem fa_th_f {μ : pm_Mem} (h : μ 205 5 = 0) : fa_th false μ := ⟨fun c => (by cases c), fun c => absurd h c⟩
theorem fa_th_t {μ : pm_Mem} (h : μ 205 5 = 1) : fa_th true μ := ⟨fun _ => by rw [h]; decide, fun _ => rfl⟩
/-- the reference's hours go on -/
theorem fs_its {t : fa_Lw} {R D pol : Int → Int} {rn dn n m : Int} {k : Nat} {z0 : fa_Z} {N B Q N1 B1 Q1 : Int → Int} {u u1 x : Int} (h : ((N, B), Q, u) = fa_its t R D pol rn dn n m k z0) (hQ : Q1 = fa_kQ Q u N) (hu : u1 = fa_ku u) (hN : (N1, B1) = fa_hour false t R D pol rn dn n m (N, B)) (hx : x = fa_many false t R D pol rn dn n m (N, B)) : ((N1, B1), Q1, u1) = fa_its t R D pol rn dn n m (k + 1) z0 ∧ fa_sum t R D pol rn dn n m (k + 1) z0 = fa_sum t R D pol rn dn n m k z0 + x := by
  rw [fa_its_s, fa_sum_s, ← h, hN, hQ, hu, hx]
  exact ⟨rfl, rfl⟩
