/-! an errand told, wholly, both sides; walks printed by program (wip/p30/pmgen.py) and filled by hand -/
section ZHW
variable {D : va_G} {Wm : Nat} {ST : List (String × String × String × Nat)} {b0 : sx_B} {l : Launch} {Sg : Nat → Option Nat} {bud : sx_Bu} {μ : pm_Mem} {B0 : Nat → Prop} {J : (Nat → Option Nat) → Heap → Prop}
/-- what the rows of errands have behind it -/
def zEv (a b c v : Int) (f : Int → Int) (i : Int) : Int := if a ≠ -1 ∧ 1 ≤ a ∧ a ≤ 20 ∧ 0 ≤ b ∧ b ≤ 99 ∧ c < 10 ∧ i = c then v else f i
theorem zEv_n {a b c v : Int} {f : Int → Int} (h : ¬ (a ≠ -1 ∧ 1 ≤ a ∧ a ≤ 20 ∧ 0 ≤ b ∧ b ≤ 99 ∧ c < 10)) (i : Int) : zEv a b c v f i = f i := if_neg (fun q => h ⟨q.1, q.2.1, q.2.2.1, q.2.2.2.1, q.2.2.2.2.1, q.2.2.2.2.2.1⟩)
theorem zEv_a {a b c v : Int} {f : Int → Int} (h : a ≠ -1 ∧ 1 ≤ a ∧ a ≤ 20 ∧ 0 ≤ b ∧ b ≤ 99 ∧ c < 10) (i : Int) : zEv a b c v f i = if i = c then v else f i := by
  unfold zEv
  by_cases hi : i = c
  · rw [if_pos ⟨h.1, h.2.1, h.2.2.1, h.2.2.2.1, h.2.2.2.2.1, h.2.2.2.2.2, hi⟩, if_pos hi]
  · rw [if_neg (fun q => hi q.2.2.2.2.2.2), if_neg hi]
theorem zEv_congr {a b c v i : Int} {f g : Int → Int} (h : f i = g i) : zEv a b c v f i = zEv a b c v g i := by
  unfold zEv
  rw [h]
set_option maxRecDepth 100000 in
theorem zh_tlF (hK : zKK ST) {a : Int} (hT : zTJ none μ) (hb33 : sx_bit Wm 33 = true) (hb34 : sx_bit Wm 34 = true) (hbd : 2 ≤ bud.1 ∧ 41 ≤ bud.2.1) : zC D Wm ST b0 l Sg zM73 bud [(2, 33), (0, a), (0, (-1)), (0, 1), (0, 20)] μ (fun st' μ' => ∃ x, st' = [(0, x)] ∧ zTJ none μ' ∧ (∀ q, q ≠ 33 → q ≠ 34 → μ' q = μ q) ∧ ((a = -1 ∧ x = 0 ∧ μ' 33 1 = 0) ∨ (a ≠ -1 ∧ (1 ≤ a ∧ a ≤ 20 ∧ μ 33 1 < 10) ∧ x = μ 33 1 + 1 ∧ μ' 33 1 = μ 33 1 + 1) ∨ (a ≠ -1 ∧ ¬ (1 ≤ a ∧ a ≤ 20 ∧ μ 33 1 < 10) ∧ x = -1 ∧ μ' 33 1 = μ 33 1)) ∧ ∀ i, μ' 34 i = zTv (-1) 1 20 10 a (μ 33 1) (μ 34) i) := zC_mono (zh_tl33 hK hT hb33 hb34 hbd) (fun st' μ' h => by
  obtain ⟨h1, h2, h3, h4, h5⟩ := h
  refine ⟨_, h1, h2, h3, ?_, h5⟩
  rw [h4]
  by_cases z0 : a = -1
  · exact Or.inl ⟨z0, (zTl_e z0).1, (zTl_e z0).2.1⟩
  · by_cases z1 : 1 ≤ a ∧ a ≤ 20 ∧ μ 33 1 < 10
    · exact Or.inr (Or.inl ⟨z0, z1, (zTl_a z0 ⟨z1.1, z1.2.1⟩ z1.2.2).1, (zTl_a z0 ⟨z1.1, z1.2.1⟩ z1.2.2).2.1⟩)
    · exact Or.inr (Or.inr ⟨z0, z1, (zTl_n z0 z1).1, (zTl_n z0 z1).2.1⟩))
set_option maxRecDepth 100000 in
theorem zh_errandzv (hK : zKK ST) {a b : Int} (hT : zTJ none μ) (he : μ 33 1 = μ 35 1) (hb33 : sx_bit Wm 33 = true) (hb34 : sx_bit Wm 34 = true) (hb35 : sx_bit Wm 35 = true) (hb36 : sx_bit Wm 36 = true) (hbd : 3 ≤ bud.1 ∧ 65 ≤ bud.2.1) : zC D Wm ST b0 l Sg zM84 bud [(2, 1), (0, a), (0, b)] μ (fun st' μ' => st' = [(0, zEx a b (μ 33 1))] ∧ zTJ none μ' ∧ (∀ q, q ≠ 33 → q ≠ 34 → q ≠ 35 → q ≠ 36 → μ' q = μ q) ∧ μ' 33 1 = zEc a b (μ 33 1) ∧ μ' 35 1 = zEc a b (μ 33 1) ∧ (∀ i, μ' 34 i = zEv a b (μ 33 1) a (μ 34) i) ∧ ∀ i, μ' 36 i = zEv a b (μ 33 1) b (μ 36) i) := by
  have f33 := zT_get hT zs33_1 (i := 1) (by omega) (by omega)
  refine pm_blk hK zmm84 [] 2 2 [(2, 1), (0, a), (0, b), (9, 0)] [(0, (-1)), (0, a)] μ [] rfl trivial ?_
  refine pm_icmp hK zmm84 .ne 17 19 rfl rfl (fun h0 => ?_) (fun h0 => ?_)
  · have h0 : a ≠ ((-1) : Int) := h0
    refine pm_blk hK zmm84 [] 3 23 [(2, 1), (0, a), (0, b), (9, 0)] [(0, 99), (0, 0), (0, b)] μ [] rfl trivial ?_
    refine pm_call hK zmm84 (94, 1, 16, 3) zM16 (0, 0) [(0, b), (0, 0), (0, 99)] [] rfl rfl rfl rfl ⟨by omega, by rw [zn16]; omega⟩ (zh_within hK ⟨Nat.le_refl _, Nat.le_refl _⟩) (fun st1 μc1 hp1 => ?_)
    obtain ⟨rfl, rfl⟩ := hp1
    refine pm_if hK zmm84 .ne 5 31 rfl rfl (fun h1 => ?_) (fun h1 => ?_)
    · have h1 : (if 0 ≤ b ∧ b ≤ 99 then 1 else 0 : Int) ≠ (0 : Int) := h1
      have h1 := zif1 h1
      refine pm_blk hK zmm84 [] 7 43 [(2, 1), (0, a), (0, b), (9, 0)] [(0, 20), (0, 1), (0, (-1)), (0, a), (2, 33)] μ [] rfl trivial ?_
      refine pm_call hK zmm84 (296, 1, 73, 5) zM73 (2, 41) [(2, 33), (0, a), (0, (-1)), (0, 1), (0, 20)] [] rfl rfl rfl rfl ⟨by omega, by rw [zn73]; omega⟩ (zh_tlF hK (a := a) hT hb33 hb34 ⟨Nat.le_refl _, Nat.le_refl _⟩) (fun st2 μc2 hp2 => ?_)
      obtain ⟨x2, rfl, hTc2, hFt2, hd2, hw2⟩ := hp2
      have hFt := hFt2
      have hdt := hd2
      have hwt := hw2
      have q35 : (a = -1 ∧ μc2 35 1 = 0) ∨ (a ≠ -1 ∧ μc2 35 1 = μ 33 1) := by
        first
        | exact Or.inr ⟨by assumption, by rw [hFt 35 (by decide) (by decide), he]⟩
        | exact Or.inl ⟨by omega, by rw [hFt 35 (by decide) (by decide), eμ1, pm_up_eq]⟩
      first
      | rw [m33] at hdt hwt
      | skip
      have qF : ∀ q, q ≠ 33 → q ≠ 34 → q ≠ 35 → q ≠ 36 → μc2 q = μ q := fun q q1 q2 q3 q4 => by
        first
        | (rw [hFt q q1 q2, eμ1, pm_up_row q3]; done)
        | (rw [hFt q q1 q2]; done)
      have q34 : ∀ i, μc2 34 i = zTv (-1) 1 20 10 a (μ 33 1) (μ 34) i := fun i => by
        first
        | exact hwt i
        | (rw [hwt i, eμ1, pm_up_row (by decide)]; done)
      have q36 : μc2 36 = μ 36 := by
        first
        | (rw [hFt 36 (by decide) (by decide), eμ1, pm_up_row (by decide)]; done)
        | exact hFt 36 (by decide) (by decide)
      refine pm_blk hK zmm84 [] 2 48 [(2, 1), (0, a), (0, b), (0, x2)] [(0, x2)] μc2 [] rfl trivial ?_
      refine pm_if hK zmm84 .le 15 63 rfl rfl (fun h2 => ?_) (fun h2 => ?_)
      · have h2 : x2 ≤ (0 : Int) := h2
        refine pm_blk hK zmm84 [] 1 64 [(2, 1), (0, a), (0, b), (0, x2)] [(0, x2)] μc2 [] rfl trivial ?_
        first
        | (exfalso; omega)
        | (have zf := zE_fin2 (b := b) hdt (by assumption) ⟨by omega, by omega⟩ hda q35; have zc : a ≠ -1 ∧ 1 ≤ a ∧ a ≤ 20 ∧ 0 ≤ b ∧ b ≤ 99 ∧ μ 33 1 < 10 := (by omega); exact pm_iret rfl rfl ⟨by rw [← zf.1], hTc2, fun q q1 q2 q3 q4 => by rw [hFa q q3 q4]; exact qF q q1 q2 q3 q4, by rw [hFa 33 (by decide) (by decide)]; exact zf.2.1, zf.2.2, fun i => by rw [hFa 34 (by decide) (by decide), q34, (zTl_a (by omega) ⟨by omega, by omega⟩ (by omega)).2.2, zEv_a zc], fun i => by rw [zEv_a zc]; rcases hda with ⟨-, u, -, -⟩ | ⟨-, -, -, u⟩; (exfalso; omega); (rw [u i, q36, show μc2 35 1 = μ 33 1 by omega])⟩)
        | (have zf := zE_fin1 (b := b) hdt (by assumption) (by omega) q35; have zc : ¬ (a ≠ -1 ∧ 1 ≤ a ∧ a ≤ 20 ∧ 0 ≤ b ∧ b ≤ 99 ∧ μ 33 1 < 10) := (by omega); exact pm_iret rfl rfl ⟨by rw [← zf.1], hTc2, qF, zf.2.1, zf.2.2, fun i => by rw [zEv_n zc, q34]; first | rw [(zTl_e (by omega)).2.2] | rw [(zTl_n (by omega) (by omega)).2.2], fun i => by rw [zEv_n zc, q36]⟩)
      · have h2 : (0 : Int) < x2 := h2
        refine pm_blk hK zmm84 [] 4 59 [(2, 1), (0, a), (0, b), (0, x2)] [(0, b), (2, 35)] μc2 [] rfl trivial ?_
        refine pm_call hK zmm84 (310, 0, 74, 1) zM74 (1, 20) [(2, 35), (0, b)] [] rfl rfl rfl rfl ⟨by omega, by rw [zn74]; omega⟩ (zh_ad35 hK (v := b) hTc2 ⟨by omega, by omega⟩ hb35 hb36 ⟨Nat.le_refl _, Nat.le_refl _⟩) (fun st3 μc3 hp3 => ?_)
        obtain ⟨x3, rfl, hTc3, hFa3, hd3⟩ := hp3
        have hFa := hFa3
        have hda := hd3
        refine pm_blk hK zmm84 [] 2 64 [(2, 1), (0, a), (0, b), (0, x2)] [(0, x2)] μc3 [] rfl trivial ?_
        first
        | (exfalso; omega)
        | (have zf := zE_fin2 (b := b) hdt (by assumption) ⟨by omega, by omega⟩ hda q35; have zc : a ≠ -1 ∧ 1 ≤ a ∧ a ≤ 20 ∧ 0 ≤ b ∧ b ≤ 99 ∧ μ 33 1 < 10 := (by omega); exact pm_iret rfl rfl ⟨by rw [← zf.1], hTc3, fun q q1 q2 q3 q4 => by rw [hFa q q3 q4]; exact qF q q1 q2 q3 q4, by rw [hFa 33 (by decide) (by decide)]; exact zf.2.1, zf.2.2, fun i => by rw [hFa 34 (by decide) (by decide), q34, (zTl_a (by omega) ⟨by omega, by omega⟩ (by omega)).2.2, zEv_a zc], fun i => by rw [zEv_a zc]; rcases hda with ⟨-, u, -, -⟩ | ⟨-, -, -, u⟩; (exfalso; omega); (rw [u i, q36, show μc2 35 1 = μ 33 1 by omega])⟩)
        | (have zf := zE_fin1 (b := b) hdt (by assumption) (by omega) q35; have zc : ¬ (a ≠ -1 ∧ 1 ≤ a ∧ a ≤ 20 ∧ 0 ≤ b ∧ b ≤ 99 ∧ μ 33 1 < 10) := (by omega); exact pm_iret rfl rfl ⟨by rw [← zf.1], hTc3, qF, zf.2.1, zf.2.2, fun i => by rw [zEv_n zc, q34]; first | rw [(zTl_e (by omega)).2.2] | rw [(zTl_n (by omega) (by omega)).2.2], fun i => by rw [zEv_n zc, q36]⟩)
    · have h1 : (if 0 ≤ b ∧ b ≤ 99 then 1 else 0 : Int) = (0 : Int) := h1
      have h1 := zif0 h1
      refine pm_blk hK zmm84 [] 1 30 [(2, 1), (0, a), (0, b), (9, 0)] [(0, (-1))] μ [] rfl trivial ?_
      have zn := zE_n (b := b) (c := μ 33 1) h0 (by omega)
      exact pm_iret rfl rfl ⟨by rw [zn.1], hT, fun _ _ _ _ _ => rfl, by rw [zn.2], by rw [zn.2]; omega, fun i => (zEv_n (by omega) i).symm, fun i => (zEv_n (by omega) i).symm⟩
  · have h0 : a = ((-1) : Int) := h0
    refine pm_blk hK zmm84 [] 5 16 [(2, 1), (0, a), (0, b), (9, 0)] [] (pm_up μ 35 1 0) [sx_bit Wm 35 = true] rfl ⟨hb35, trivial⟩ ?_
    obtain ⟨μ1, eμ1⟩ : ∃ μ', μ' = pm_up μ 35 1 0 := ⟨_, rfl⟩
    rw [← eμ1]
    have hTμ1 : zTJ none μ1 := by rw [eμ1]; exact zT_upn hT zs35_1 rfl (i := 1) (by omega) (by omega) (by omega) (by omega)
    have m33 : μ1 33 1 = μ 33 1 := by rw [eμ1, pm_up_off (by decide)]
    refine pm_blk hK zmm84 [] 8 43 [(2, 1), (0, a), (0, b), (9, 0)] [(0, 20), (0, 1), (0, (-1)), (0, a), (2, 33)] μ1 [] rfl trivial ?_
    refine pm_call hK zmm84 (296, 1, 73, 5) zM73 (2, 41) [(2, 33), (0, a), (0, (-1)), (0, 1), (0, 20)] [] rfl rfl rfl rfl ⟨by omega, by rw [zn73]; omega⟩ (zh_tlF hK (a := a) hTμ1 hb33 hb34 ⟨Nat.le_refl _, Nat.le_refl _⟩) (fun st4 μc4 hp4 => ?_)
    obtain ⟨x4, rfl, hTc4, hFt4, hd4, hw4⟩ := hp4
    have hFt := hFt4
    have hdt := hd4
    have hwt := hw4
    have q35 : (a = -1 ∧ μc4 35 1 = 0) ∨ (a ≠ -1 ∧ μc4 35 1 = μ 33 1) := by
      first
      | exact Or.inr ⟨by assumption, by rw [hFt 35 (by decide) (by decide), he]⟩
      | exact Or.inl ⟨by omega, by rw [hFt 35 (by decide) (by decide), eμ1, pm_up_eq]⟩
    first
    | rw [m33] at hdt hwt
    | skip
    have qF : ∀ q, q ≠ 33 → q ≠ 34 → q ≠ 35 → q ≠ 36 → μc4 q = μ q := fun q q1 q2 q3 q4 => by
      first
      | (rw [hFt q q1 q2, eμ1, pm_up_row q3]; done)
      | (rw [hFt q q1 q2]; done)
    have q34 : ∀ i, μc4 34 i = zTv (-1) 1 20 10 a (μ 33 1) (μ 34) i := fun i => by
      first
      | exact hwt i
      | (rw [hwt i, eμ1, pm_up_row (by decide)]; done)
    have q36 : μc4 36 = μ 36 := by
      first
      | (rw [hFt 36 (by decide) (by decide), eμ1, pm_up_row (by decide)]; done)
      | exact hFt 36 (by decide) (by decide)
    refine pm_blk hK zmm84 [] 2 48 [(2, 1), (0, a), (0, b), (0, x4)] [(0, x4)] μc4 [] rfl trivial ?_
    refine pm_if hK zmm84 .le 15 63 rfl rfl (fun h3 => ?_) (fun h3 => ?_)
    · have h3 : x4 ≤ (0 : Int) := h3
      refine pm_blk hK zmm84 [] 1 64 [(2, 1), (0, a), (0, b), (0, x4)] [(0, x4)] μc4 [] rfl trivial ?_
      first
      | (exfalso; omega)
      | (have zf := zE_fin2 (b := b) hdt (by assumption) ⟨by omega, by omega⟩ hda q35; have zc : a ≠ -1 ∧ 1 ≤ a ∧ a ≤ 20 ∧ 0 ≤ b ∧ b ≤ 99 ∧ μ 33 1 < 10 := (by omega); exact pm_iret rfl rfl ⟨by rw [← zf.1], hTc4, fun q q1 q2 q3 q4 => by rw [hFa q q3 q4]; exact qF q q1 q2 q3 q4, by rw [hFa 33 (by decide) (by decide)]; exact zf.2.1, zf.2.2, fun i => by rw [hFa 34 (by decide) (by decide), q34, (zTl_a (by omega) ⟨by omega, by omega⟩ (by omega)).2.2, zEv_a zc], fun i => by rw [zEv_a zc]; rcases hda with ⟨-, u, -, -⟩ | ⟨-, -, -, u⟩; (exfalso; omega); (rw [u i, q36, show μc4 35 1 = μ 33 1 by omega])⟩)
      | (have zf := zE_fin1 (b := b) hdt (by assumption) (by omega) q35; have zc : ¬ (a ≠ -1 ∧ 1 ≤ a ∧ a ≤ 20 ∧ 0 ≤ b ∧ b ≤ 99 ∧ μ 33 1 < 10) := (by omega); exact pm_iret rfl rfl ⟨by rw [← zf.1], hTc4, qF, zf.2.1, zf.2.2, fun i => by rw [zEv_n zc, q34]; first | rw [(zTl_e (by omega)).2.2] | rw [(zTl_n (by omega) (by omega)).2.2], fun i => by rw [zEv_n zc, q36]⟩)
    · have h3 : (0 : Int) < x4 := h3
      refine pm_blk hK zmm84 [] 4 59 [(2, 1), (0, a), (0, b), (0, x4)] [(0, b), (2, 35)] μc4 [] rfl trivial ?_
      refine pm_call hK zmm84 (310, 0, 74, 1) zM74 (1, 20) [(2, 35), (0, b)] [] rfl rfl rfl rfl ⟨by omega, by rw [zn74]; omega⟩ (zh_ad35 hK (v := b) hTc4 ⟨by omega, by omega⟩ hb35 hb36 ⟨Nat.le_refl _, Nat.le_refl _⟩) (fun st5 μc5 hp5 => ?_)
      obtain ⟨x5, rfl, hTc5, hFa5, hd5⟩ := hp5
      have hFa := hFa5
      have hda := hd5
      refine pm_blk hK zmm84 [] 2 64 [(2, 1), (0, a), (0, b), (0, x4)] [(0, x4)] μc5 [] rfl trivial ?_
      first
      | (exfalso; omega)
      | (have zf := zE_fin2 (b := b) hdt (by assumption) ⟨by omega, by omega⟩ hda q35; have zc : a ≠ -1 ∧ 1 ≤ a ∧ a ≤ 20 ∧ 0 ≤ b ∧ b ≤ 99 ∧ μ 33 1 < 10 := (by omega); exact pm_iret rfl rfl ⟨by rw [← zf.1], hTc5, fun q q1 q2 q3 q4 => by rw [hFa q q3 q4]; exact qF q q1 q2 q3 q4, by rw [hFa 33 (by decide) (by decide)]; exact zf.2.1, zf.2.2, fun i => by rw [hFa 34 (by decide) (by decide), q34, (zTl_a (by omega) ⟨by omega, by omega⟩ (by omega)).2.2, zEv_a zc], fun i => by rw [zEv_a zc]; rcases hda with ⟨-, u, -, -⟩ | ⟨-, -, -, u⟩; (exfalso; omega); (rw [u i, q36, show μc4 35 1 = μ 33 1 by omega])⟩)
      | (have zf := zE_fin1 (b := b) hdt (by assumption) (by omega) q35; have zc : ¬ (a ≠ -1 ∧ 1 ≤ a ∧ a ≤ 20 ∧ 0 ≤ b ∧ b ≤ 99 ∧ μ 33 1 < 10) := (by omega); exact pm_iret rfl rfl ⟨by rw [← zf.1], hTc5, qF, zf.2.1, zf.2.2, fun i => by rw [zEv_n zc, q34]; first | rw [(zTl_e (by omega)).2.2] | rw [(zTl_n (by omega) (by omega)).2.2], fun i => by rw [zEv_n zc, q36]⟩)
set_option maxRecDepth 100000 in
theorem zh_errandmv (hK : zKK ST) {a b : Int} (hT : zTJ none μ) (hb205 : sx_bit Wm 205 = true) (hb234 : sx_bit Wm 234 = true) (hb235 : sx_bit Wm 235 = true) (hbd : 1 ≤ bud.1 ∧ 23 ≤ bud.2.1) : zC D Wm ST b0 l Sg zM180 bud [(2, 205), (0, a), (0, b)] μ (fun st' μ' => st' = [(0, zEx a b (μ 205 52))] ∧ zTJ none μ' ∧ (∀ q, q ≠ 205 → q ≠ 234 → q ≠ 235 → μ' q = μ q) ∧ (∀ k, k ≠ 0 → k ≠ 52 → μ' 205 k = μ 205 k) ∧ μ' 205 52 = zEc a b (μ 205 52) ∧ (∀ i, μ' 234 i = zEv a b (μ 205 52) a (μ 234) i) ∧ ∀ i, μ' 235 i = zEv a b (μ 205 52) b (μ 235) i) := by
  have f0 := zT_get hT zs205_52 (i := 52) (by omega) (by omega)
  refine pm_blk hK zmm180 [] 3 5 [(2, 205), (0, a), (0, b)] [] (pm_up μ 205 0 0) [sx_bit Wm 205 = true] rfl ⟨hb205, trivial⟩ ?_
  obtain ⟨μ1, eμ1⟩ : ∃ μ', μ' = pm_up μ 205 0 0 := ⟨_, rfl⟩
  rw [← eμ1]
  have hTμ1 : zTJ none μ1 := by rw [eμ1]; exact zT_upn hT zs205_0 rfl (i := 0) (by omega) (by omega) (by omega) (by omega)
  have b1 : ∀ k : Int, k ≠ 0 → μ1 205 k = μ 205 k := fun k hk => by rw [eμ1, pm_up_ne hk]
  have b2 : ∀ q, q ≠ 205 → μ1 q = μ q := fun q hq => by rw [eμ1, pm_up_row hq]
  have b3 := b1 52 (by decide)
  refine pm_blk hK zmm180 [] 2 7 [(2, 205), (0, a), (0, b)] [(0, (-1)), (0, a)] μ1 [] rfl trivial ?_
  refine pm_icmp hK zmm180 .ne 10 17 rfl rfl (fun h0 => ?_) (fun h0 => ?_)
  · have h0 : a ≠ ((-1) : Int) := h0
    refine pm_blk hK zmm180 [] 4 22 [(2, 205), (0, a), (0, b)] [(0, 20), (0, 1), (0, a), (2, 205)] μ1 [] rfl trivial ?_
    refine pm_call hK zmm180 (158, 0, 129, 3) zM129 (0, 0) [(2, 205), (0, a), (0, 1), (0, 20)] [] rfl rfl rfl rfl ⟨by omega, by rw [zn129]; omega⟩ (zh_isIn hK ⟨by omega, by omega⟩) (fun st1 μc1 hp1 => ?_)
    obtain ⟨rfl, rfl⟩ := hp1
    refine pm_if hK zmm180 .eq 23 48 rfl rfl (fun h1 => ?_) (fun h1 => ?_)
    · have h1 : (if 1 ≤ a ∧ a ≤ 20 then 1 else 0 : Int) = (0 : Int) := h1
      have h1 := zif0 h1
      refine pm_blk hK zmm180 [] 1 49 [(2, 205), (0, a), (0, b)] [(0, (-1))] μ1 [] rfl trivial ?_
      have zn := zE_n (b := b) (c := μ 205 52) h0 (by omega)
      exact pm_iret rfl rfl ⟨by rw [zn.1], hTμ1, fun q q1 _ _ => b2 q q1, fun k k0 _ => b1 k k0, by rw [zn.2]; exact b3, fun i => by rw [zEv_n (by omega), b2 234 (by decide)], fun i => by rw [zEv_n (by omega), b2 235 (by decide)]⟩
    · have h1 : (if 1 ≤ a ∧ a ≤ 20 then 1 else 0 : Int) ≠ (0 : Int) := h1
      have h1 := zif1 h1
      refine pm_blk hK zmm180 [] 4 33 [(2, 205), (0, a), (0, b)] [(0, 99), (0, 0), (0, b), (2, 205)] μ1 [] rfl trivial ?_
      refine pm_call hK zmm180 (158, 0, 129, 3) zM129 (0, 0) [(2, 205), (0, b), (0, 0), (0, 99)] [] rfl rfl rfl rfl ⟨by omega, by rw [zn129]; omega⟩ (zh_isIn hK ⟨by omega, by omega⟩) (fun st2 μc2 hp2 => ?_)
      obtain ⟨rfl, rfl⟩ := hp2
      refine pm_if hK zmm180 .eq 12 48 rfl rfl (fun h2 => ?_) (fun h2 => ?_)
      · have h2 : (if 0 ≤ b ∧ b ≤ 99 then 1 else 0 : Int) = (0 : Int) := h2
        have h2 := zif0 h2
        refine pm_blk hK zmm180 [] 1 49 [(2, 205), (0, a), (0, b)] [(0, (-1))] μ1 [] rfl trivial ?_
        have zn := zE_n (b := b) (c := μ 205 52) h0 (by omega)
        exact pm_iret rfl rfl ⟨by rw [zn.1], hTμ1, fun q q1 _ _ => b2 q q1, fun k k0 _ => b1 k k0, by rw [zn.2]; exact b3, fun i => by rw [zEv_n (by omega), b2 234 (by decide)], fun i => by rw [zEv_n (by omega), b2 235 (by decide)]⟩
      · have h2 : (if 0 ≤ b ∧ b ≤ 99 then 1 else 0 : Int) ≠ (0 : Int) := h2
        have h2 := zif1 h2
        have f1 := zT_get hTμ1 zs205_52 (i := 52) (by omega) (by omega)
        refine pm_blk hK zmm180 [] 3 45 [(2, 205), (0, a), (0, b)] [(0, 10), (0, μ1 205 52)] μ1 [] rfl trivial ?_
        refine pm_icmp hK zmm180 .ne 5 50 rfl rfl (fun h3 => ?_) (fun h3 => ?_)
        · have h3 : μ1 205 52 ≠ (10 : Int) := h3
          refine pm_blk hK zmm180 [] 6 60 [(2, 205), (0, a), (0, b)] [] (pm_up μ1 234 (μ1 205 52) a) [sx_bit Wm 234 = true, 0 ≤ μ1 205 52 ∧ μ1 205 52 < 10] rfl ⟨hb234, ⟨by omega, by omega⟩, trivial⟩ ?_
          obtain ⟨μ2, eμ2⟩ : ∃ μ', μ' = pm_up μ1 234 (μ1 205 52) a := ⟨_, rfl⟩
          rw [← eμ2]
          have hTμ2 : zTJ none μ2 := by rw [eμ2]; exact zT_upn hTμ1 zs234_0 rfl (i := μ1 205 52) (by omega) (by omega) (by omega) (by omega)
          have g2 : μ2 205 52 = μ1 205 52 := by rw [eμ2, pm_up_off (by decide)]
          have f3 := zT_get hTμ2 zs205_52 (i := 52) (by omega) (by omega)
          refine pm_blk hK zmm180 [] 6 70 [(2, 205), (0, a), (0, b)] [] (pm_up μ2 235 (μ2 205 52) b) [sx_bit Wm 235 = true, 0 ≤ μ2 205 52 ∧ μ2 205 52 < 10] rfl ⟨hb235, ⟨by omega, by omega⟩, trivial⟩ ?_
          obtain ⟨μ3, eμ3⟩ : ∃ μ', μ' = pm_up μ2 235 (μ2 205 52) b := ⟨_, rfl⟩
          rw [← eμ3]
          have hTμ3 : zTJ none μ3 := by rw [eμ3]; exact zT_upn hTμ2 zs235_0 rfl (i := μ2 205 52) (by omega) (by omega) (by omega) (by omega)
          have g4 : μ3 205 52 = μ1 205 52 := by rw [eμ3, pm_up_off (by decide), eμ2, pm_up_off (by decide)]
          have f5 := zT_get hTμ3 zs205_52 (i := 52) (by omega) (by omega)
          refine pm_blk hK zmm180 [] 6 80 [(2, 205), (0, a), (0, b)] [] (pm_up μ3 205 52 ((μ3 205 52) + 1)) [pm_in ((μ3 205 52) + 1), sx_bit Wm 205 = true] rfl ⟨pm_in_mk (by omega) (by omega), hb205, trivial⟩ ?_
          obtain ⟨μ4, eμ4⟩ : ∃ μ', μ' = pm_up μ3 205 52 ((μ3 205 52) + 1) := ⟨_, rfl⟩
          rw [← eμ4]
          have hTμ4 : zTJ none μ4 := by rw [eμ4]; exact zT_upn hTμ3 zs205_52 rfl (i := 52) (by omega) (by omega) (by omega) (by omega)
          have a4 : μ4 205 52 = μ 205 52 + 1 := by rw [eμ4, pm_up_eq, eμ3, pm_up_off (by decide), eμ2, pm_up_off (by decide), b3]
          have f6 := zT_get hTμ4 zs205_52 (i := 52) (by omega) (by omega)
          refine pm_blk hK zmm180 [] 2 84 [(2, 205), (0, a), (0, b)] [(0, μ4 205 52)] μ4 [] rfl trivial ?_
          have zn := zE_a (b := b) (c := μ 205 52) h0 ⟨by omega, by omega, by omega, by omega, by omega⟩
          have zc : a ≠ -1 ∧ 1 ≤ a ∧ a ≤ 20 ∧ 0 ≤ b ∧ b ≤ 99 ∧ μ 205 52 < 10 := by omega
          have e2x : μ2 205 52 = μ 205 52 := by rw [eμ2, pm_up_off (by decide), b3]
          have e2y : μ2 235 = μ 235 := by rw [eμ2, pm_up_row (by decide), b2 235 (by decide)]
          exact pm_iret rfl rfl ⟨by rw [a4, zn.1], hTμ4, fun q q1 q2 q3 => by rw [eμ4, pm_up_row q1, eμ3, pm_up_row q3, eμ2, pm_up_row q2, b2 q q1], fun k k0 k1 => by rw [eμ4, pm_up_ne k1, eμ3, pm_up_off (by decide), eμ2, pm_up_off (by decide), b1 k k0], by rw [a4, zn.2], fun i => by rw [zEv_a zc, eμ4, pm_up_off (by decide), eμ3, pm_up_off (by decide), eμ2, pm_up_if, b3, b2 234 (by decide)], fun i => by rw [zEv_a zc, eμ4, pm_up_off (by decide), eμ3, pm_up_if, e2x, e2y]⟩
        · have h3 : μ1 205 52 = (10 : Int) := h3
          refine pm_blk hK zmm180 [] 1 49 [(2, 205), (0, a), (0, b)] [(0, (-1))] μ1 [] rfl trivial ?_
          have zn := zE_n (b := b) (c := μ 205 52) h0 (by omega)
          exact pm_iret rfl rfl ⟨by rw [zn.1], hTμ1, fun q q1 _ _ => b2 q q1, fun k k0 _ => b1 k k0, by rw [zn.2]; exact b3, fun i => by rw [zEv_n (by omega), b2 234 (by decide)], fun i => by rw [zEv_n (by omega), b2 235 (by decide)]⟩
  · have h0 : a = ((-1) : Int) := h0
    refine pm_blk hK zmm180 [] 3 15 [(2, 205), (0, a), (0, b)] [] (pm_up μ1 205 52 0) [sx_bit Wm 205 = true] rfl ⟨hb205, trivial⟩ ?_
    obtain ⟨μ5, eμ5⟩ : ∃ μ', μ' = pm_up μ1 205 52 0 := ⟨_, rfl⟩
    rw [← eμ5]
    have hTμ5 : zTJ none μ5 := by rw [eμ5]; exact zT_upn hTμ1 zs205_52 rfl (i := 52) (by omega) (by omega) (by omega) (by omega)
    refine pm_blk hK zmm180 [] 1 16 [(2, 205), (0, a), (0, b)] [(0, 0)] μ5 [] rfl trivial ?_
    exact pm_iret rfl rfl ⟨by rw [(zE_e h0).1], hTμ5, fun q q1 _ _ => by rw [eμ5, pm_up_row q1, b2 q q1], fun k k0 k1 => by rw [eμ5, pm_up_ne k1, b1 k k0], by rw [(zE_e h0).2, eμ5, pm_up_eq], fun i => by rw [zEv_n (by omega), eμ5, pm_up_row (by decide), b2 234 (by decide)], fun i => by rw [zEv_n (by omega), eμ5, pm_up_row (by decide), b2 235 (by decide)]⟩
end ZHW
