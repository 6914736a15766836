/-! sums over places; couples and sets of three: the two sides' ways of telling them over -/
def zS (h : Int → Int) : Nat → Int → Int
  | 0, _ => 0
  | k + 1, a => h a + zS h k (a + 1)
theorem zS_congr {h h' : Int → Int} : ∀ {k : Nat} {a : Int}, (∀ i, a ≤ i → i < a + k → h i = h' i) → zS h k a = zS h' k a
  | 0, _, _ => rfl
  | k + 1, a, e => by
    show h a + zS h k (a + 1) = h' a + zS h' k (a + 1)
    rw [e a (Int.le_refl _) (by omega), zS_congr (fun i i0 i1 => e i (by omega) (by omega))]
theorem zS_snoc {h : Int → Int} : ∀ {k : Nat} {a : Int}, zS h (k + 1) a = zS h k a + h (a + k)
  | 0, a => by
    show h a + 0 = 0 + h (a + (0 : Nat))
    rw [show a + ((0 : Nat) : Int) = a by omega]
    omega
  | k + 1, a => by
    have ih := zS_snoc (h := h) (k := k) (a := a + 1)
    show h a + zS h (k + 1) (a + 1) = h a + zS h k (a + 1) + h (a + (k + 1 : Nat))
    rw [ih, show a + ((k + 1 : Nat) : Int) = a + 1 + (k : Int) by omega]
    omega
theorem zS_add {h h' : Int → Int} : ∀ {k : Nat} {a : Int}, zS (fun i => h i + h' i) k a = zS h k a + zS h' k a
  | 0, _ => rfl
  | k + 1, a => by
    have ih := zS_add (h := h) (h' := h') (k := k) (a := a + 1)
    show h a + h' a + zS (fun i => h i + h' i) k (a + 1) = h a + zS h k (a + 1) + (h' a + zS h' k (a + 1))
    rw [ih]
    omega
theorem zS_zero {h : Int → Int} : ∀ {k : Nat} {a : Int}, (∀ i, a ≤ i → i < a + k → h i = 0) → zS h k a = 0
  | 0, _, _ => rfl
  | k + 1, a, e => by
    show h a + zS h k (a + 1) = 0
    rw [e a (Int.le_refl _) (by omega), zS_zero (fun i i0 i1 => e i (by omega) (by omega))]
    rfl
/-- a couple makes it -/
def zgP (f : Int → Int) (s i j : Int) : Int := if f i + f j = s then 1 else 0
theorem zgP_sym (f : Int → Int) (s i j : Int) : zgP f s i j = zgP f s j i := by
  unfold zgP
  rw [Int.add_comm]
/-- each with those behind it -/
def zcA (f : Int → Int) (s : Int) (n : Nat) : Int := zS (fun i => zS (fun j => zgP f s i j) (n - (i.toNat + 1)) (i + 1)) n 0
/-- each with those ahead of it -/
def zcB (f : Int → Int) (s : Int) (n : Nat) : Int := zS (fun a => zS (fun b => zgP f s a b) a.toNat 0) n 0
theorem zcB_s (f : Int → Int) (s : Int) (n : Nat) : zcB f s (n + 1) = zcB f s n + zS (fun b => zgP f s n b) n 0 := by
  unfold zcB
  rw [zS_snoc, show (0 : Int) + (n : Int) = n by omega, show ((n : Int)).toNat = n by omega]
theorem zcA_s (f : Int → Int) (s : Int) (n : Nat) : zcA f s (n + 1) = zcA f s n + zS (fun b => zgP f s n b) n 0 := by
  unfold zcA
  rw [zS_snoc, show (0 : Int) + (n : Int) = n by omega, show n + 1 - (((n : Int)).toNat + 1) = 0 by omega]
  show zS (fun i => zS (fun j => zgP f s i j) (n + 1 - (i.toNat + 1)) (i + 1)) n 0 + 0 = _
  rw [← zS_add, Int.add_zero]
  refine zS_congr (fun i i0 i1 => ?_)
  rw [show n + 1 - (i.toNat + 1) = (n - (i.toNat + 1)) + 1 by omega, zS_snoc, show i + 1 + ((n - (i.toNat + 1) : Nat) : Int) = n by omega, zgP_sym f s n i]
theorem zcAB (f : Int → Int) (s : Int) : ∀ n : Nat, zcA f s n = zcB f s n
  | 0 => rfl
  | n + 1 => by rw [zcA_s, zcB_s, zcAB f s n]
/-- of three: one is the other two together -/
def zh3 (f : Int → Int) (a b c : Int) : Int := if f a + f b = f c ∨ f a + f c = f b ∨ f b + f c = f a then 1 else 0
theorem zh3_e {f : Int → Int} {a b c : Int} (ha : 1 ≤ f a) (hb : 1 ≤ f b) (hc : 1 ≤ f c) : zh3 f a b c = zgP f (f a) b c + (zgP f (f b) a c + zgP f (f c) a b) := by
  unfold zh3 zgP
  split
  · rename_i h
    rcases h with h | h | h
    · rw [if_neg (by omega), if_neg (by omega), if_pos h]; rfl
    · rw [if_neg (by omega), if_pos h, if_neg (by omega)]; rfl
    · rw [if_pos h, if_neg (by omega), if_neg (by omega)]; rfl
  · rename_i h
    rw [if_neg (fun q => h (Or.inr (Or.inr q))), if_neg (fun q => h (Or.inr (Or.inl q))), if_neg (fun q => h (Or.inl q))]; rfl
/-- each sum with the couples -/
def ztA (f : Int → Int) (n : Nat) : Int := zS (fun s => zcA f (f s) n) n 0
/-- each set once -/
def ztB (f : Int → Int) (n : Nat) : Int := zS (fun a => zS (fun b => zS (fun c => zh3 f a b c) b.toNat 0) a.toNat 0) n 0
theorem zS_sq {q : Int → Int → Int} : ∀ {n : Nat}, zS (fun s => zS (fun b => q s b) n 0) n 0 = zS (fun a => q a a + zS (fun b => q a b + q b a) a.toNat 0) n 0
  | 0 => rfl
  | n + 1 => by
    have ih := zS_sq (q := q) (n := n)
    rw [zS_snoc (k := n) (a := 0) (h := fun a => q a a + zS (fun b => q a b + q b a) a.toNat 0), ← ih, zS_snoc (k := n) (a := 0) (h := fun s => zS (fun b => q s b) (n + 1) 0), show (0 : Int) + (n : Int) = n by omega, show ((n : Int)).toNat = n by omega]
    have e1 : zS (fun s => zS (fun b => q s b) (n + 1) 0) n 0 = zS (fun s => zS (fun b => q s b) n 0) n 0 + zS (fun s => q s n) n 0 := by
      rw [← zS_add]
      exact zS_congr (fun i _ _ => by rw [zS_snoc, show (0 : Int) + (n : Int) = n by omega])
    have e2 : zS (fun b => q n b) (n + 1) 0 = zS (fun b => q n b) n 0 + q n n := by rw [zS_snoc, show (0 : Int) + (n : Int) = n by omega]
    have e3 : zS (fun b => q n b + q b n) n 0 = zS (fun b => q n b) n 0 + zS (fun b => q b n) n 0 := zS_add
    rw [e1, e2, e3]
    omega
theorem ztA_s {f : Int → Int} {n : Nat} (hf : ∀ i : Int, 0 ≤ i → i < n + 1 → 1 ≤ f i) : ztA f (n + 1) = ztA f n + zS (fun b => zS (fun c => zh3 f n b c) b.toNat 0) n 0 := by
  unfold ztA
  rw [zS_snoc, show (0 : Int) + (n : Int) = n by omega]
  have e1 : zS (fun s => zcA f (f s) (n + 1)) n 0 = zS (fun s => zcA f (f s) n) n 0 + zS (fun s => zS (fun b => zgP f (f s) n b) n 0) n 0 := by
    rw [← zS_add]
    exact zS_congr (fun i _ _ => zcA_s f (f i) n)
  have e2 : zcA f (f n) (n + 1) = zcB f (f n) n := by
    rw [zcA_s, zcAB]
    rw [zS_zero (h := fun b => zgP f (f n) n b) (fun i i0 i1 => by
      have := hf i (by omega) (by omega)
      exact if_neg (by omega))]
    omega
  have e3 : zS (fun s => zS (fun b => zgP f (f s) n b) n 0) n 0 = zS (fun a => zS (fun b => zgP f (f a) n b + zgP f (f b) n a) a.toNat 0) n 0 := by
    rw [zS_sq (q := fun s b => zgP f (f s) n b)]
    refine zS_congr (fun a a0 a1 => ?_)
    have hn := hf n (by omega) (by omega)
    have : zgP f (f a) n a = 0 := if_neg (by omega)
    rw [this]
    omega
  rw [e1, e2, e3, Int.add_assoc]
  congr 1
  unfold zcB
  rw [← zS_add]
  refine zS_congr (fun b b0 b1 => ?_)
  rw [← zS_add]
  refine zS_congr (fun c c0 c1 => ?_)
  rw [zh3_e (hf n (by omega) (by omega)) (hf b (by omega) (by omega)) (hf c (by omega) (by omega))]
  omega
theorem ztB_s (f : Int → Int) (n : Nat) : ztB f (n + 1) = ztB f n + zS (fun b => zS (fun c => zh3 f n b c) b.toNat 0) n 0 := by
  unfold ztB
  rw [zS_snoc, show (0 : Int) + (n : Int) = n by omega, show ((n : Int)).toNat = n by omega]
theorem ztAB {f : Int → Int} : ∀ {n : Nat}, (∀ i : Int, 0 ≤ i → i < n → 1 ≤ f i) → ztA f n = ztB f n
  | 0, _ => rfl
  | n + 1, hf => by rw [ztA_s (fun i i0 i1 => hf i i0 (by omega)), ztB_s, ztAB (n := n) (fun i i0 i1 => hf i i0 (by omega))]
theorem zS_u {h : Int → Int} {a n : Int} (ha : a < n) : zS h (n - a).toNat a = h a + zS h (n - (a + 1)).toNat (a + 1) := by
  rw [show (n - a).toNat = (n - (a + 1)).toNat + 1 by omega]
  rfl
theorem zS_e {h : Int → Int} {a n : Int} (ha : n ≤ a) : zS h (n - a).toNat a = 0 := by
  rw [show (n - a).toNat = 0 by omega]
  rfl
/-- the two sides' answers -/
def zuA (n : Nat) (f : Int → Int) (s : Int) : Int := if s = -1 then ztA f n else if 0 ≤ s ∧ s ≤ 198 then zcA f s n else -1
def zuB (n : Nat) (f : Int → Int) (s : Int) : Int := if s = -1 then ztB f n else if 0 ≤ s ∧ s ≤ 198 then zcB f s n else -1
theorem zgP_congr {f g : Int → Int} {s i j : Int} (hi : f i = g i) (hj : f j = g j) : zgP f s i j = zgP g s i j := by
  unfold zgP
  rw [hi, hj]
theorem zcB_congr {f g : Int → Int} {n : Nat} (h : ∀ i : Int, 0 ≤ i → i < n → f i = g i) (s : Int) : zcB f s n = zcB g s n :=
  zS_congr (fun a a0 a1 => zS_congr (fun b b0 b1 => zgP_congr (h a a0 (by omega)) (h b b0 (by omega))))
theorem zh3_congr {f g : Int → Int} {a b c : Int} (ha : f a = g a) (hb : f b = g b) (hc : f c = g c) : zh3 f a b c = zh3 g a b c := by
  unfold zh3
  rw [ha, hb, hc]
theorem ztB_congr {f g : Int → Int} {n : Nat} (h : ∀ i : Int, 0 ≤ i → i < n → f i = g i) : ztB f n = ztB g n :=
  zS_congr (fun a a0 a1 => zS_congr (fun b b0 b1 => zS_congr (fun c c0 c1 => zh3_congr (h a a0 (by omega)) (h b b0 (by omega)) (h c c0 (by omega)))))
theorem zuB_congr {f g : Int → Int} {n : Nat} (h : ∀ i : Int, 0 ≤ i → i < n → f i = g i) (s : Int) : zuB n f s = zuB n g s := by
  unfold zuB
  rw [ztB_congr h, zcB_congr h]
theorem zuAB {f : Int → Int} {n : Nat} (hp : ∀ i : Int, 0 ≤ i → i < n → 1 ≤ f i) (s : Int) : zuA n f s = zuB n f s := by
  unfold zuA zuB
  rw [ztAB hp, zcAB]
theorem zuC {f g h : Int → Int} {c : Int} (hc : 0 ≤ c) (hp : ∀ i : Int, 0 ≤ i → i < c → 1 ≤ f i) (ea : ∀ z : Int, 0 ≤ z → z < c → f z = g z) (eb : ∀ z : Int, 0 ≤ z → z < c → g z = h z) (s : Int) : zuA c.toNat f s = zuB c.toNat h s := by
  rw [zuAB (fun i i0 i1 => hp i i0 (by omega)) s, zuB_congr (fun i i0 i1 => ea i i0 (by omega)) s, zuB_congr (fun i i0 i1 => eb i i0 (by omega)) s]
