/-! rows for thought of the reference; walks printed by program (wip/p30/pmgen.py) and filled by hand -/
section ZHW
variable {D : va_G} {Wm : Nat} {ST : List (String × String × String × Nat)} {b0 : sx_B} {l : Launch} {Sg : Nat → Option Nat} {bud : sx_Bu} {μ : pm_Mem} {B0 : Nat → Prop} {J : (Nat → Option Nat) → Heap → Prop}
set_option maxRecDepth 100000 in
theorem zh_threadm (hK : zKK ST) {a : Int} (hT : zTJ none μ) (hb205 : sx_bit Wm 205 = true) (hb237 : sx_bit Wm 237 = true) (hbd : 1 ≤ bud.1 ∧ 23 ≤ bud.2.1) : zC D Wm ST b0 l Sg zM186 bud [(2, 205), (0, a)] μ (fun st' μ' => st' = [(0, zTx (-1) 1 99 8 a (μ 205 56))] ∧ zTJ none μ' ∧ (∀ q, q ≠ 205 → q ≠ 237 → μ' q = μ q) ∧ (∀ k, k ≠ 0 → k ≠ 56 → μ' 205 k = μ 205 k) ∧ μ' 205 56 = zTc (-1) 1 99 8 a (μ 205 56) ∧ ∀ i, μ' 237 i = zTv (-1) 1 99 8 a (μ 205 56) (μ 237) i) := by
  have f0 := zT_get hT zs205_56 (i := 56) (by omega) (by omega)
  refine pm_blk hK zmm186 [] 3 5 [(2, 205), (0, a)] [] (pm_up μ 205 0 0) [sx_bit Wm 205 = true] rfl ⟨hb205, trivial⟩ ?_
  obtain ⟨μ1, eμ1⟩ : ∃ μ', μ' = pm_up μ 205 0 0 := ⟨_, rfl⟩
  rw [← eμ1]
  have hTμ1 : zTJ none μ1 := by rw [eμ1]; exact zT_upn hT zs205_0 rfl (i := 0) (by omega) (by omega) (by omega) (by omega)
  have b1 : ∀ k : Int, k ≠ 0 → μ1 205 k = μ 205 k := fun k hk => by rw [eμ1, pm_up_ne hk]
  have b2 : ∀ q, q ≠ 205 → μ1 q = μ q := fun q hq => by rw [eμ1, pm_up_row hq]
  have b3 := b1 56 (by decide)
  refine pm_blk hK zmm186 [] 2 7 [(2, 205), (0, a)] [(0, (-1)), (0, a)] μ1 [] rfl trivial ?_
  refine pm_icmp hK zmm186 .ne 10 17 rfl rfl (fun h0 => ?_) (fun h0 => ?_)
  · have h0 : a ≠ ((-1) : Int) := h0
    refine pm_blk hK zmm186 [] 4 22 [(2, 205), (0, a)] [(0, 99), (0, 1), (0, a), (2, 205)] μ1 [] rfl trivial ?_
    refine pm_call hK zmm186 (158, 0, 129, 3) zM129 (0, 0) [(2, 205), (0, a), (0, 1), (0, 99)] [] rfl rfl rfl rfl ⟨by omega, by rw [zn129]; omega⟩ (zh_isIn hK ⟨by omega, by omega⟩) (fun st1 μc1 hp1 => ?_)
    obtain ⟨rfl, rfl⟩ := hp1
    refine pm_if hK zmm186 .eq 12 37 rfl rfl (fun h1 => ?_) (fun h1 => ?_)
    · have h1 : (if 1 ≤ a ∧ a ≤ 99 then 1 else 0 : Int) = (0 : Int) := h1
      have h1 := zif0 h1
      refine pm_blk hK zmm186 [] 1 38 [(2, 205), (0, a)] [(0, (-1))] μ1 [] rfl trivial ?_
      have zn := zTl_n (lo := 1) (hi := 99) (room := 8) (c := μ 205 56) h0 (by omega)
      exact pm_iret rfl rfl ⟨by rw [zn.1], hTμ1, fun q q1 _ => b2 q q1, fun k k0 _ => b1 k k0, by rw [zn.2.1]; exact b3, fun i => by rw [zn.2.2, b2 237 (by decide)]⟩
    · have h1 : (if 1 ≤ a ∧ a ≤ 99 then 1 else 0 : Int) ≠ (0 : Int) := h1
      have h1 := zif1 h1
      have f1 := zT_get hTμ1 zs205_56 (i := 56) (by omega) (by omega)
      refine pm_blk hK zmm186 [] 3 34 [(2, 205), (0, a)] [(0, 8), (0, μ1 205 56)] μ1 [] rfl trivial ?_
      refine pm_icmp hK zmm186 .ne 5 39 rfl rfl (fun h2 => ?_) (fun h2 => ?_)
      · have h2 : μ1 205 56 ≠ (8 : Int) := h2
        refine pm_blk hK zmm186 [] 6 49 [(2, 205), (0, a)] [] (pm_up μ1 237 (μ1 205 56) a) [sx_bit Wm 237 = true, 0 ≤ μ1 205 56 ∧ μ1 205 56 < 8] rfl ⟨hb237, ⟨by omega, by omega⟩, trivial⟩ ?_
        obtain ⟨μ2, eμ2⟩ : ∃ μ', μ' = pm_up μ1 237 (μ1 205 56) a := ⟨_, rfl⟩
        rw [← eμ2]
        have hTμ2 : zTJ none μ2 := by rw [eμ2]; exact zT_upn hTμ1 zs237_0 rfl (i := μ1 205 56) (by omega) (by omega) (by omega) (by omega)
        have g2 : μ2 205 56 = μ1 205 56 := by rw [eμ2, pm_up_off (by decide)]
        have f3 := zT_get hTμ2 zs205_56 (i := 56) (by omega) (by omega)
        refine pm_blk hK zmm186 [] 6 59 [(2, 205), (0, a)] [] (pm_up μ2 205 56 ((μ2 205 56) + 1)) [pm_in ((μ2 205 56) + 1), sx_bit Wm 205 = true] rfl ⟨pm_in_mk (by omega) (by omega), hb205, trivial⟩ ?_
        obtain ⟨μ3, eμ3⟩ : ∃ μ', μ' = pm_up μ2 205 56 ((μ2 205 56) + 1) := ⟨_, rfl⟩
        rw [← eμ3]
        have hTμ3 : zTJ none μ3 := by rw [eμ3]; exact zT_upn hTμ2 zs205_56 rfl (i := 56) (by omega) (by omega) (by omega) (by omega)
        have a3 : μ3 205 56 = μ 205 56 + 1 := by rw [eμ3, pm_up_eq, eμ2, pm_up_off (by decide), b3]
        have f4 := zT_get hTμ3 zs205_56 (i := 56) (by omega) (by omega)
        refine pm_blk hK zmm186 [] 2 63 [(2, 205), (0, a)] [(0, μ3 205 56)] μ3 [] rfl trivial ?_
        have zn := zTl_a (lo := 1) (hi := 99) (room := 8) (c := μ 205 56) h0 h1 (by omega)
        exact pm_iret rfl rfl ⟨by rw [a3, zn.1], hTμ3, fun q q1 q2 => by rw [eμ3, pm_up_row q1, eμ2, pm_up_row q2, b2 q q1], fun k k0 k1 => by rw [eμ3, pm_up_ne k1, eμ2, pm_up_off (by decide), b1 k k0], by rw [a3, zn.2.1], fun i => by rw [zn.2.2, eμ3, pm_up_off (by decide), eμ2, pm_up_if, b3, b2 237 (by decide)]⟩
      · have h2 : μ1 205 56 = (8 : Int) := h2
        refine pm_blk hK zmm186 [] 1 38 [(2, 205), (0, a)] [(0, (-1))] μ1 [] rfl trivial ?_
        have zn := zTl_n (lo := 1) (hi := 99) (room := 8) (c := μ 205 56) h0 (by omega)
        exact pm_iret rfl rfl ⟨by rw [zn.1], hTμ1, fun q q1 _ => b2 q q1, fun k k0 _ => b1 k k0, by rw [zn.2.1]; exact b3, fun i => by rw [zn.2.2, b2 237 (by decide)]⟩
  · have h0 : a = ((-1) : Int) := h0
    refine pm_blk hK zmm186 [] 3 15 [(2, 205), (0, a)] [] (pm_up μ1 205 56 0) [sx_bit Wm 205 = true] rfl ⟨hb205, trivial⟩ ?_
    obtain ⟨μ4, eμ4⟩ : ∃ μ', μ' = pm_up μ1 205 56 0 := ⟨_, rfl⟩
    rw [← eμ4]
    have hTμ4 : zTJ none μ4 := by rw [eμ4]; exact zT_upn hTμ1 zs205_56 rfl (i := 56) (by omega) (by omega) (by omega) (by omega)
    refine pm_blk hK zmm186 [] 1 16 [(2, 205), (0, a)] [(0, 0)] μ4 [] rfl trivial ?_
    exact pm_iret rfl rfl ⟨by rw [(zTl_e h0).1], hTμ4, fun q q1 _ => by rw [eμ4, pm_up_row q1, b2 q q1], fun k k0 k1 => by rw [eμ4, pm_up_ne k1, b1 k k0], by rw [(zTl_e h0).2.1, eμ4, pm_up_eq], fun i => by rw [(zTl_e h0).2.2, eμ4, pm_up_off (by decide), b2 237 (by decide)]⟩
set_option maxRecDepth 100000 in
theorem zh_earnm (hK : zKK ST) {a : Int} (hT : zTJ none μ) (hb205 : sx_bit Wm 205 = true) (hb239 : sx_bit Wm 239 = true) (hbd : 1 ≤ bud.1 ∧ 23 ≤ bud.2.1) : zC D Wm ST b0 l Sg zM188 bud [(2, 205), (0, a)] μ (fun st' μ' => st' = [(0, zTx (-1000) (-99) 99 12 a (μ 205 59))] ∧ zTJ none μ' ∧ (∀ q, q ≠ 205 → q ≠ 239 → μ' q = μ q) ∧ (∀ k, k ≠ 0 → k ≠ 59 → μ' 205 k = μ 205 k) ∧ μ' 205 59 = zTc (-1000) (-99) 99 12 a (μ 205 59) ∧ ∀ i, μ' 239 i = zTv (-1000) (-99) 99 12 a (μ 205 59) (μ 239) i) := by
  have f0 := zT_get hT zs205_59 (i := 59) (by omega) (by omega)
  refine pm_blk hK zmm188 [] 3 5 [(2, 205), (0, a)] [] (pm_up μ 205 0 0) [sx_bit Wm 205 = true] rfl ⟨hb205, trivial⟩ ?_
  obtain ⟨μ1, eμ1⟩ : ∃ μ', μ' = pm_up μ 205 0 0 := ⟨_, rfl⟩
  rw [← eμ1]
  have hTμ1 : zTJ none μ1 := by rw [eμ1]; exact zT_upn hT zs205_0 rfl (i := 0) (by omega) (by omega) (by omega) (by omega)
  have b1 : ∀ k : Int, k ≠ 0 → μ1 205 k = μ 205 k := fun k hk => by rw [eμ1, pm_up_ne hk]
  have b2 : ∀ q, q ≠ 205 → μ1 q = μ q := fun q hq => by rw [eμ1, pm_up_row hq]
  have b3 := b1 59 (by decide)
  refine pm_blk hK zmm188 [] 2 9 [(2, 205), (0, a)] [(0, (-1000)), (0, a)] μ1 [] rfl trivial ?_
  refine pm_icmp hK zmm188 .ne 10 19 rfl rfl (fun h0 => ?_) (fun h0 => ?_)
  · have h0 : a ≠ ((-1000) : Int) := h0
    refine pm_blk hK zmm188 [] 4 25 [(2, 205), (0, a)] [(0, 99), (0, (-99)), (0, a), (2, 205)] μ1 [] rfl trivial ?_
    refine pm_call hK zmm188 (158, 0, 129, 3) zM129 (0, 0) [(2, 205), (0, a), (0, (-99)), (0, 99)] [] rfl rfl rfl rfl ⟨by omega, by rw [zn129]; omega⟩ (zh_isIn hK ⟨by omega, by omega⟩) (fun st1 μc1 hp1 => ?_)
    obtain ⟨rfl, rfl⟩ := hp1
    refine pm_if hK zmm188 .eq 12 40 rfl rfl (fun h1 => ?_) (fun h1 => ?_)
    · have h1 : (if ((-99)) ≤ a ∧ a ≤ 99 then 1 else 0 : Int) = (0 : Int) := h1
      have h1 := zif0 h1
      refine pm_blk hK zmm188 [] 1 41 [(2, 205), (0, a)] [(0, (-1))] μ1 [] rfl trivial ?_
      have zn := zTl_n (lo := (-99)) (hi := 99) (room := 12) (c := μ 205 59) h0 (by omega)
      exact pm_iret rfl rfl ⟨by rw [zn.1], hTμ1, fun q q1 _ => b2 q q1, fun k k0 _ => b1 k k0, by rw [zn.2.1]; exact b3, fun i => by rw [zn.2.2, b2 239 (by decide)]⟩
    · have h1 : (if ((-99)) ≤ a ∧ a ≤ 99 then 1 else 0 : Int) ≠ (0 : Int) := h1
      have h1 := zif1 h1
      have f1 := zT_get hTμ1 zs205_59 (i := 59) (by omega) (by omega)
      refine pm_blk hK zmm188 [] 3 37 [(2, 205), (0, a)] [(0, 12), (0, μ1 205 59)] μ1 [] rfl trivial ?_
      refine pm_icmp hK zmm188 .ne 5 42 rfl rfl (fun h2 => ?_) (fun h2 => ?_)
      · have h2 : μ1 205 59 ≠ (12 : Int) := h2
        refine pm_blk hK zmm188 [] 6 52 [(2, 205), (0, a)] [] (pm_up μ1 239 (μ1 205 59) a) [sx_bit Wm 239 = true, 0 ≤ μ1 205 59 ∧ μ1 205 59 < 12] rfl ⟨hb239, ⟨by omega, by omega⟩, trivial⟩ ?_
        obtain ⟨μ2, eμ2⟩ : ∃ μ', μ' = pm_up μ1 239 (μ1 205 59) a := ⟨_, rfl⟩
        rw [← eμ2]
        have hTμ2 : zTJ none μ2 := by rw [eμ2]; exact zT_upn hTμ1 zs239_0 rfl (i := μ1 205 59) (by omega) (by omega) (by omega) (by omega)
        have g2 : μ2 205 59 = μ1 205 59 := by rw [eμ2, pm_up_off (by decide)]
        have f3 := zT_get hTμ2 zs205_59 (i := 59) (by omega) (by omega)
        refine pm_blk hK zmm188 [] 6 62 [(2, 205), (0, a)] [] (pm_up μ2 205 59 ((μ2 205 59) + 1)) [pm_in ((μ2 205 59) + 1), sx_bit Wm 205 = true] rfl ⟨pm_in_mk (by omega) (by omega), hb205, trivial⟩ ?_
        obtain ⟨μ3, eμ3⟩ : ∃ μ', μ' = pm_up μ2 205 59 ((μ2 205 59) + 1) := ⟨_, rfl⟩
        rw [← eμ3]
        have hTμ3 : zTJ none μ3 := by rw [eμ3]; exact zT_upn hTμ2 zs205_59 rfl (i := 59) (by omega) (by omega) (by omega) (by omega)
        have a3 : μ3 205 59 = μ 205 59 + 1 := by rw [eμ3, pm_up_eq, eμ2, pm_up_off (by decide), b3]
        have f4 := zT_get hTμ3 zs205_59 (i := 59) (by omega) (by omega)
        refine pm_blk hK zmm188 [] 2 66 [(2, 205), (0, a)] [(0, μ3 205 59)] μ3 [] rfl trivial ?_
        have zn := zTl_a (lo := (-99)) (hi := 99) (room := 12) (c := μ 205 59) h0 h1 (by omega)
        exact pm_iret rfl rfl ⟨by rw [a3, zn.1], hTμ3, fun q q1 q2 => by rw [eμ3, pm_up_row q1, eμ2, pm_up_row q2, b2 q q1], fun k k0 k1 => by rw [eμ3, pm_up_ne k1, eμ2, pm_up_off (by decide), b1 k k0], by rw [a3, zn.2.1], fun i => by rw [zn.2.2, eμ3, pm_up_off (by decide), eμ2, pm_up_if, b3, b2 239 (by decide)]⟩
      · have h2 : μ1 205 59 = (12 : Int) := h2
        refine pm_blk hK zmm188 [] 1 41 [(2, 205), (0, a)] [(0, (-1))] μ1 [] rfl trivial ?_
        have zn := zTl_n (lo := (-99)) (hi := 99) (room := 12) (c := μ 205 59) h0 (by omega)
        exact pm_iret rfl rfl ⟨by rw [zn.1], hTμ1, fun q q1 _ => b2 q q1, fun k k0 _ => b1 k k0, by rw [zn.2.1]; exact b3, fun i => by rw [zn.2.2, b2 239 (by decide)]⟩
  · have h0 : a = ((-1000) : Int) := h0
    refine pm_blk hK zmm188 [] 3 17 [(2, 205), (0, a)] [] (pm_up μ1 205 59 0) [sx_bit Wm 205 = true] rfl ⟨hb205, trivial⟩ ?_
    obtain ⟨μ4, eμ4⟩ : ∃ μ', μ' = pm_up μ1 205 59 0 := ⟨_, rfl⟩
    rw [← eμ4]
    have hTμ4 : zTJ none μ4 := by rw [eμ4]; exact zT_upn hTμ1 zs205_59 rfl (i := 59) (by omega) (by omega) (by omega) (by omega)
    refine pm_blk hK zmm188 [] 1 18 [(2, 205), (0, a)] [(0, 0)] μ4 [] rfl trivial ?_
    exact pm_iret rfl rfl ⟨by rw [(zTl_e h0).1], hTμ4, fun q q1 _ => by rw [eμ4, pm_up_row q1, b2 q q1], fun k k0 k1 => by rw [eμ4, pm_up_ne k1, b1 k k0], by rw [(zTl_e h0).2.1, eμ4, pm_up_eq], fun i => by rw [(zTl_e h0).2.2, eμ4, pm_up_off (by decide), b2 239 (by decide)]⟩
set_option maxRecDepth 100000 in
theorem zh_pricem (hK : zKK ST) {a : Int} (hT : zTJ none μ) (hb205 : sx_bit Wm 205 = true) (hb241 : sx_bit Wm 241 = true) (hbd : 1 ≤ bud.1 ∧ 23 ≤ bud.2.1) : zC D Wm ST b0 l Sg zM193 bud [(2, 205), (0, a)] μ (fun st' μ' => st' = [(0, zTx (-1) 1 99 10 a (μ 205 63))] ∧ zTJ none μ' ∧ (∀ q, q ≠ 205 → q ≠ 241 → μ' q = μ q) ∧ (∀ k, k ≠ 0 → k ≠ 63 → μ' 205 k = μ 205 k) ∧ μ' 205 63 = zTc (-1) 1 99 10 a (μ 205 63) ∧ ∀ i, μ' 241 i = zTv (-1) 1 99 10 a (μ 205 63) (μ 241) i) := by
  have f0 := zT_get hT zs205_63 (i := 63) (by omega) (by omega)
  refine pm_blk hK zmm193 [] 3 5 [(2, 205), (0, a)] [] (pm_up μ 205 0 0) [sx_bit Wm 205 = true] rfl ⟨hb205, trivial⟩ ?_
  obtain ⟨μ1, eμ1⟩ : ∃ μ', μ' = pm_up μ 205 0 0 := ⟨_, rfl⟩
  rw [← eμ1]
  have hTμ1 : zTJ none μ1 := by rw [eμ1]; exact zT_upn hT zs205_0 rfl (i := 0) (by omega) (by omega) (by omega) (by omega)
  have b1 : ∀ k : Int, k ≠ 0 → μ1 205 k = μ 205 k := fun k hk => by rw [eμ1, pm_up_ne hk]
  have b2 : ∀ q, q ≠ 205 → μ1 q = μ q := fun q hq => by rw [eμ1, pm_up_row hq]
  have b3 := b1 63 (by decide)
  refine pm_blk hK zmm193 [] 2 7 [(2, 205), (0, a)] [(0, (-1)), (0, a)] μ1 [] rfl trivial ?_
  refine pm_icmp hK zmm193 .ne 10 17 rfl rfl (fun h0 => ?_) (fun h0 => ?_)
  · have h0 : a ≠ ((-1) : Int) := h0
    refine pm_blk hK zmm193 [] 4 22 [(2, 205), (0, a)] [(0, 99), (0, 1), (0, a), (2, 205)] μ1 [] rfl trivial ?_
    refine pm_call hK zmm193 (158, 0, 129, 3) zM129 (0, 0) [(2, 205), (0, a), (0, 1), (0, 99)] [] rfl rfl rfl rfl ⟨by omega, by rw [zn129]; omega⟩ (zh_isIn hK ⟨by omega, by omega⟩) (fun st1 μc1 hp1 => ?_)
    obtain ⟨rfl, rfl⟩ := hp1
    refine pm_if hK zmm193 .eq 12 37 rfl rfl (fun h1 => ?_) (fun h1 => ?_)
    · have h1 : (if 1 ≤ a ∧ a ≤ 99 then 1 else 0 : Int) = (0 : Int) := h1
      have h1 := zif0 h1
      refine pm_blk hK zmm193 [] 1 38 [(2, 205), (0, a)] [(0, (-1))] μ1 [] rfl trivial ?_
      have zn := zTl_n (lo := 1) (hi := 99) (room := 10) (c := μ 205 63) h0 (by omega)
      exact pm_iret rfl rfl ⟨by rw [zn.1], hTμ1, fun q q1 _ => b2 q q1, fun k k0 _ => b1 k k0, by rw [zn.2.1]; exact b3, fun i => by rw [zn.2.2, b2 241 (by decide)]⟩
    · have h1 : (if 1 ≤ a ∧ a ≤ 99 then 1 else 0 : Int) ≠ (0 : Int) := h1
      have h1 := zif1 h1
      have f1 := zT_get hTμ1 zs205_63 (i := 63) (by omega) (by omega)
      refine pm_blk hK zmm193 [] 3 34 [(2, 205), (0, a)] [(0, 10), (0, μ1 205 63)] μ1 [] rfl trivial ?_
      refine pm_icmp hK zmm193 .ne 5 39 rfl rfl (fun h2 => ?_) (fun h2 => ?_)
      · have h2 : μ1 205 63 ≠ (10 : Int) := h2
        refine pm_blk hK zmm193 [] 6 49 [(2, 205), (0, a)] [] (pm_up μ1 241 (μ1 205 63) a) [sx_bit Wm 241 = true, 0 ≤ μ1 205 63 ∧ μ1 205 63 < 10] rfl ⟨hb241, ⟨by omega, by omega⟩, trivial⟩ ?_
        obtain ⟨μ2, eμ2⟩ : ∃ μ', μ' = pm_up μ1 241 (μ1 205 63) a := ⟨_, rfl⟩
        rw [← eμ2]
        have hTμ2 : zTJ none μ2 := by rw [eμ2]; exact zT_upn hTμ1 zs241_0 rfl (i := μ1 205 63) (by omega) (by omega) (by omega) (by omega)
        have g2 : μ2 205 63 = μ1 205 63 := by rw [eμ2, pm_up_off (by decide)]
        have f3 := zT_get hTμ2 zs205_63 (i := 63) (by omega) (by omega)
        refine pm_blk hK zmm193 [] 6 59 [(2, 205), (0, a)] [] (pm_up μ2 205 63 ((μ2 205 63) + 1)) [pm_in ((μ2 205 63) + 1), sx_bit Wm 205 = true] rfl ⟨pm_in_mk (by omega) (by omega), hb205, trivial⟩ ?_
        obtain ⟨μ3, eμ3⟩ : ∃ μ', μ' = pm_up μ2 205 63 ((μ2 205 63) + 1) := ⟨_, rfl⟩
        rw [← eμ3]
        have hTμ3 : zTJ none μ3 := by rw [eμ3]; exact zT_upn hTμ2 zs205_63 rfl (i := 63) (by omega) (by omega) (by omega) (by omega)
        have a3 : μ3 205 63 = μ 205 63 + 1 := by rw [eμ3, pm_up_eq, eμ2, pm_up_off (by decide), b3]
        have f4 := zT_get hTμ3 zs205_63 (i := 63) (by omega) (by omega)
        refine pm_blk hK zmm193 [] 2 63 [(2, 205), (0, a)] [(0, μ3 205 63)] μ3 [] rfl trivial ?_
        have zn := zTl_a (lo := 1) (hi := 99) (room := 10) (c := μ 205 63) h0 h1 (by omega)
        exact pm_iret rfl rfl ⟨by rw [a3, zn.1], hTμ3, fun q q1 q2 => by rw [eμ3, pm_up_row q1, eμ2, pm_up_row q2, b2 q q1], fun k k0 k1 => by rw [eμ3, pm_up_ne k1, eμ2, pm_up_off (by decide), b1 k k0], by rw [a3, zn.2.1], fun i => by rw [zn.2.2, eμ3, pm_up_off (by decide), eμ2, pm_up_if, b3, b2 241 (by decide)]⟩
      · have h2 : μ1 205 63 = (10 : Int) := h2
        refine pm_blk hK zmm193 [] 1 38 [(2, 205), (0, a)] [(0, (-1))] μ1 [] rfl trivial ?_
        have zn := zTl_n (lo := 1) (hi := 99) (room := 10) (c := μ 205 63) h0 (by omega)
        exact pm_iret rfl rfl ⟨by rw [zn.1], hTμ1, fun q q1 _ => b2 q q1, fun k k0 _ => b1 k k0, by rw [zn.2.1]; exact b3, fun i => by rw [zn.2.2, b2 241 (by decide)]⟩
  · have h0 : a = ((-1) : Int) := h0
    refine pm_blk hK zmm193 [] 3 15 [(2, 205), (0, a)] [] (pm_up μ1 205 63 0) [sx_bit Wm 205 = true] rfl ⟨hb205, trivial⟩ ?_
    obtain ⟨μ4, eμ4⟩ : ∃ μ', μ' = pm_up μ1 205 63 0 := ⟨_, rfl⟩
    rw [← eμ4]
    have hTμ4 : zTJ none μ4 := by rw [eμ4]; exact zT_upn hTμ1 zs205_63 rfl (i := 63) (by omega) (by omega) (by omega) (by omega)
    refine pm_blk hK zmm193 [] 1 16 [(2, 205), (0, a)] [(0, 0)] μ4 [] rfl trivial ?_
    exact pm_iret rfl rfl ⟨by rw [(zTl_e h0).1], hTμ4, fun q q1 _ => by rw [eμ4, pm_up_row q1, b2 q q1], fun k k0 k1 => by rw [eμ4, pm_up_ne k1, b1 k k0], by rw [(zTl_e h0).2.1, eμ4, pm_up_eq], fun i => by rw [(zTl_e h0).2.2, eμ4, pm_up_off (by decide), b2 241 (by decide)]⟩
set_option maxRecDepth 100000 in
theorem zh_shutterm (hK : zKK ST) {a : Int} (hT : zTJ none μ) (hb205 : sx_bit Wm 205 = true) (hb244 : sx_bit Wm 244 = true) (hbd : 1 ≤ bud.1 ∧ 23 ≤ bud.2.1) : zC D Wm ST b0 l Sg zM200 bud [(2, 205), (0, a)] μ (fun st' μ' => st' = [(0, zTx (-1) 0 99 8 a (μ 205 67))] ∧ zTJ none μ' ∧ (∀ q, q ≠ 205 → q ≠ 244 → μ' q = μ q) ∧ (∀ k, k ≠ 0 → k ≠ 67 → μ' 205 k = μ 205 k) ∧ μ' 205 67 = zTc (-1) 0 99 8 a (μ 205 67) ∧ ∀ i, μ' 244 i = zTv (-1) 0 99 8 a (μ 205 67) (μ 244) i) := by
  have f0 := zT_get hT zs205_67 (i := 67) (by omega) (by omega)
  refine pm_blk hK zmm200 [] 3 5 [(2, 205), (0, a)] [] (pm_up μ 205 0 0) [sx_bit Wm 205 = true] rfl ⟨hb205, trivial⟩ ?_
  obtain ⟨μ1, eμ1⟩ : ∃ μ', μ' = pm_up μ 205 0 0 := ⟨_, rfl⟩
  rw [← eμ1]
  have hTμ1 : zTJ none μ1 := by rw [eμ1]; exact zT_upn hT zs205_0 rfl (i := 0) (by omega) (by omega) (by omega) (by omega)
  have b1 : ∀ k : Int, k ≠ 0 → μ1 205 k = μ 205 k := fun k hk => by rw [eμ1, pm_up_ne hk]
  have b2 : ∀ q, q ≠ 205 → μ1 q = μ q := fun q hq => by rw [eμ1, pm_up_row hq]
  have b3 := b1 67 (by decide)
  refine pm_blk hK zmm200 [] 2 7 [(2, 205), (0, a)] [(0, (-1)), (0, a)] μ1 [] rfl trivial ?_
  refine pm_icmp hK zmm200 .ne 10 17 rfl rfl (fun h0 => ?_) (fun h0 => ?_)
  · have h0 : a ≠ ((-1) : Int) := h0
    refine pm_blk hK zmm200 [] 4 22 [(2, 205), (0, a)] [(0, 99), (0, 0), (0, a), (2, 205)] μ1 [] rfl trivial ?_
    refine pm_call hK zmm200 (158, 0, 129, 3) zM129 (0, 0) [(2, 205), (0, a), (0, 0), (0, 99)] [] rfl rfl rfl rfl ⟨by omega, by rw [zn129]; omega⟩ (zh_isIn hK ⟨by omega, by omega⟩) (fun st1 μc1 hp1 => ?_)
    obtain ⟨rfl, rfl⟩ := hp1
    refine pm_if hK zmm200 .eq 12 37 rfl rfl (fun h1 => ?_) (fun h1 => ?_)
    · have h1 : (if 0 ≤ a ∧ a ≤ 99 then 1 else 0 : Int) = (0 : Int) := h1
      have h1 := zif0 h1
      refine pm_blk hK zmm200 [] 1 38 [(2, 205), (0, a)] [(0, (-1))] μ1 [] rfl trivial ?_
      have zn := zTl_n (lo := 0) (hi := 99) (room := 8) (c := μ 205 67) h0 (by omega)
      exact pm_iret rfl rfl ⟨by rw [zn.1], hTμ1, fun q q1 _ => b2 q q1, fun k k0 _ => b1 k k0, by rw [zn.2.1]; exact b3, fun i => by rw [zn.2.2, b2 244 (by decide)]⟩
    · have h1 : (if 0 ≤ a ∧ a ≤ 99 then 1 else 0 : Int) ≠ (0 : Int) := h1
      have h1 := zif1 h1
      have f1 := zT_get hTμ1 zs205_67 (i := 67) (by omega) (by omega)
      refine pm_blk hK zmm200 [] 3 34 [(2, 205), (0, a)] [(0, 8), (0, μ1 205 67)] μ1 [] rfl trivial ?_
      refine pm_icmp hK zmm200 .ne 5 39 rfl rfl (fun h2 => ?_) (fun h2 => ?_)
      · have h2 : μ1 205 67 ≠ (8 : Int) := h2
        refine pm_blk hK zmm200 [] 6 49 [(2, 205), (0, a)] [] (pm_up μ1 244 (μ1 205 67) a) [sx_bit Wm 244 = true, 0 ≤ μ1 205 67 ∧ μ1 205 67 < 8] rfl ⟨hb244, ⟨by omega, by omega⟩, trivial⟩ ?_
        obtain ⟨μ2, eμ2⟩ : ∃ μ', μ' = pm_up μ1 244 (μ1 205 67) a := ⟨_, rfl⟩
        rw [← eμ2]
        have hTμ2 : zTJ none μ2 := by rw [eμ2]; exact zT_upn hTμ1 zs244_0 rfl (i := μ1 205 67) (by omega) (by omega) (by omega) (by omega)
        have g2 : μ2 205 67 = μ1 205 67 := by rw [eμ2, pm_up_off (by decide)]
        have f3 := zT_get hTμ2 zs205_67 (i := 67) (by omega) (by omega)
        refine pm_blk hK zmm200 [] 6 59 [(2, 205), (0, a)] [] (pm_up μ2 205 67 ((μ2 205 67) + 1)) [pm_in ((μ2 205 67) + 1), sx_bit Wm 205 = true] rfl ⟨pm_in_mk (by omega) (by omega), hb205, trivial⟩ ?_
        obtain ⟨μ3, eμ3⟩ : ∃ μ', μ' = pm_up μ2 205 67 ((μ2 205 67) + 1) := ⟨_, rfl⟩
        rw [← eμ3]
        have hTμ3 : zTJ none μ3 := by rw [eμ3]; exact zT_upn hTμ2 zs205_67 rfl (i := 67) (by omega) (by omega) (by omega) (by omega)
        have a3 : μ3 205 67 = μ 205 67 + 1 := by rw [eμ3, pm_up_eq, eμ2, pm_up_off (by decide), b3]
        have f4 := zT_get hTμ3 zs205_67 (i := 67) (by omega) (by omega)
        refine pm_blk hK zmm200 [] 2 63 [(2, 205), (0, a)] [(0, μ3 205 67)] μ3 [] rfl trivial ?_
        have zn := zTl_a (lo := 0) (hi := 99) (room := 8) (c := μ 205 67) h0 h1 (by omega)
        exact pm_iret rfl rfl ⟨by rw [a3, zn.1], hTμ3, fun q q1 q2 => by rw [eμ3, pm_up_row q1, eμ2, pm_up_row q2, b2 q q1], fun k k0 k1 => by rw [eμ3, pm_up_ne k1, eμ2, pm_up_off (by decide), b1 k k0], by rw [a3, zn.2.1], fun i => by rw [zn.2.2, eμ3, pm_up_off (by decide), eμ2, pm_up_if, b3, b2 244 (by decide)]⟩
      · have h2 : μ1 205 67 = (8 : Int) := h2
        refine pm_blk hK zmm200 [] 1 38 [(2, 205), (0, a)] [(0, (-1))] μ1 [] rfl trivial ?_
        have zn := zTl_n (lo := 0) (hi := 99) (room := 8) (c := μ 205 67) h0 (by omega)
        exact pm_iret rfl rfl ⟨by rw [zn.1], hTμ1, fun q q1 _ => b2 q q1, fun k k0 _ => b1 k k0, by rw [zn.2.1]; exact b3, fun i => by rw [zn.2.2, b2 244 (by decide)]⟩
  · have h0 : a = ((-1) : Int) := h0
    refine pm_blk hK zmm200 [] 3 15 [(2, 205), (0, a)] [] (pm_up μ1 205 67 0) [sx_bit Wm 205 = true] rfl ⟨hb205, trivial⟩ ?_
    obtain ⟨μ4, eμ4⟩ : ∃ μ', μ' = pm_up μ1 205 67 0 := ⟨_, rfl⟩
    rw [← eμ4]
    have hTμ4 : zTJ none μ4 := by rw [eμ4]; exact zT_upn hTμ1 zs205_67 rfl (i := 67) (by omega) (by omega) (by omega) (by omega)
    refine pm_blk hK zmm200 [] 1 16 [(2, 205), (0, a)] [(0, 0)] μ4 [] rfl trivial ?_
    exact pm_iret rfl rfl ⟨by rw [(zTl_e h0).1], hTμ4, fun q q1 _ => by rw [eμ4, pm_up_row q1, b2 q q1], fun k k0 k1 => by rw [eμ4, pm_up_ne k1, b1 k k0], by rw [(zTl_e h0).2.1, eμ4, pm_up_eq], fun i => by rw [(zTl_e h0).2.2, eμ4, pm_up_off (by decide), b2 244 (by decide)]⟩
set_option maxRecDepth 100000 in
theorem zh_errandm (hK : zKK ST) {a b : Int} (hT : zTJ none μ) (hb205 : sx_bit Wm 205 = true) (hb234 : sx_bit Wm 234 = true) (hb235 : sx_bit Wm 235 = true) (hbd : 1 ≤ bud.1 ∧ 23 ≤ bud.2.1) : zC D Wm ST b0 l Sg zM180 bud [(2, 205), (0, a), (0, b)] μ (fun st' μ' => st' = [(0, zEx a b (μ 205 52))] ∧ zTJ none μ' ∧ (∀ q, q ≠ 205 → q ≠ 234 → q ≠ 235 → μ' q = μ q) ∧ (∀ k, k ≠ 0 → k ≠ 52 → μ' 205 k = μ 205 k) ∧ μ' 205 52 = zEc a b (μ 205 52)) := by
  have f0 := zT_get hT zs205_52 (i := 52) (by omega) (by omega)
  refine pm_blk hK zmm180 [] 3 5 [(2, 205), (0, a), (0, b)] [] (pm_up μ 205 0 0) [sx_bit Wm 205 = true] rfl ⟨hb205, trivial⟩ ?_
  obtain ⟨μ1, eμ1⟩ : ∃ μ', μ' = pm_up μ 205 0 0 := ⟨_, rfl⟩
  rw [← eμ1]
  have hTμ1 : zTJ none μ1 := by rw [eμ1]; exact zT_upn hT zs205_0 rfl (i := 0) (by omega) (by omega) (by omega) (by omega)
  have b1 : ∀ k : Int, k ≠ 0 → μ1 205 k = μ 205 k := fun k hk => by rw [eμ1, pm_up_ne hk]
  have b2 : ∀ q, q ≠ 205 → μ1 q = μ q := fun q hq => by rw [eμ1, pm_up_row hq]
  have b3 := b1 52 (by decide)
  refine pm_blk hK zmm180 [] 2 7 [(2, 205), (0, a), (0, b)] [(0, (-1)), (0, a)] μ1 [] rfl trivial ?_
  refine pm_icmp hK zmm180 .ne 10 17 rfl rfl (fun h0 => ?_) (fun h0 => ?_)
  · have h0 : a ≠ ((-1) : Int) := h0
    refine pm_blk hK zmm180 [] 4 22 [(2, 205), (0, a), (0, b)] [(0, 20), (0, 1), (0, a), (2, 205)] μ1 [] rfl trivial ?_
    refine pm_call hK zmm180 (158, 0, 129, 3) zM129 (0, 0) [(2, 205), (0, a), (0, 1), (0, 20)] [] rfl rfl rfl rfl ⟨by omega, by rw [zn129]; omega⟩ (zh_isIn hK ⟨by omega, by omega⟩) (fun st1 μc1 hp1 => ?_)
    obtain ⟨rfl, rfl⟩ := hp1
    refine pm_if hK zmm180 .eq 23 48 rfl rfl (fun h1 => ?_) (fun h1 => ?_)
    · have h1 : (if 1 ≤ a ∧ a ≤ 20 then 1 else 0 : Int) = (0 : Int) := h1
      have h1 := zif0 h1
      refine pm_blk hK zmm180 [] 1 49 [(2, 205), (0, a), (0, b)] [(0, (-1))] μ1 [] rfl trivial ?_
      have zn := zE_n (b := b) (c := μ 205 52) h0 (by omega)
      exact pm_iret rfl rfl ⟨by rw [zn.1], hTμ1, fun q q1 _ _ => b2 q q1, fun k k0 _ => b1 k k0, by rw [zn.2]; exact b3⟩
    · have h1 : (if 1 ≤ a ∧ a ≤ 20 then 1 else 0 : Int) ≠ (0 : Int) := h1
      have h1 := zif1 h1
      refine pm_blk hK zmm180 [] 4 33 [(2, 205), (0, a), (0, b)] [(0, 99), (0, 0), (0, b), (2, 205)] μ1 [] rfl trivial ?_
      refine pm_call hK zmm180 (158, 0, 129, 3) zM129 (0, 0) [(2, 205), (0, b), (0, 0), (0, 99)] [] rfl rfl rfl rfl ⟨by omega, by rw [zn129]; omega⟩ (zh_isIn hK ⟨by omega, by omega⟩) (fun st2 μc2 hp2 => ?_)
      obtain ⟨rfl, rfl⟩ := hp2
      refine pm_if hK zmm180 .eq 12 48 rfl rfl (fun h2 => ?_) (fun h2 => ?_)
      · have h2 : (if 0 ≤ b ∧ b ≤ 99 then 1 else 0 : Int) = (0 : Int) := h2
        have h2 := zif0 h2
        refine pm_blk hK zmm180 [] 1 49 [(2, 205), (0, a), (0, b)] [(0, (-1))] μ1 [] rfl trivial ?_
        have zn := zE_n (b := b) (c := μ 205 52) h0 (by omega)
        exact pm_iret rfl rfl ⟨by rw [zn.1], hTμ1, fun q q1 _ _ => b2 q q1, fun k k0 _ => b1 k k0, by rw [zn.2]; exact b3⟩
      · have h2 : (if 0 ≤ b ∧ b ≤ 99 then 1 else 0 : Int) ≠ (0 : Int) := h2
        have h2 := zif1 h2
        have f1 := zT_get hTμ1 zs205_52 (i := 52) (by omega) (by omega)
        refine pm_blk hK zmm180 [] 3 45 [(2, 205), (0, a), (0, b)] [(0, 10), (0, μ1 205 52)] μ1 [] rfl trivial ?_
        refine pm_icmp hK zmm180 .ne 5 50 rfl rfl (fun h3 => ?_) (fun h3 => ?_)
        · have h3 : μ1 205 52 ≠ (10 : Int) := h3
          refine pm_blk hK zmm180 [] 6 60 [(2, 205), (0, a), (0, b)] [] (pm_up μ1 234 (μ1 205 52) a) [sx_bit Wm 234 = true, 0 ≤ μ1 205 52 ∧ μ1 205 52 < 10] rfl ⟨hb234, ⟨by omega, by omega⟩, trivial⟩ ?_
          obtain ⟨μ2, eμ2⟩ : ∃ μ', μ' = pm_up μ1 234 (μ1 205 52) a := ⟨_, rfl⟩
          rw [← eμ2]
          have hTμ2 : zTJ none μ2 := by rw [eμ2]; exact zT_upn hTμ1 zs234_0 rfl (i := μ1 205 52) (by omega) (by omega) (by omega) (by omega)
          have g2 : μ2 205 52 = μ1 205 52 := by rw [eμ2, pm_up_off (by decide)]
          have f3 := zT_get hTμ2 zs205_52 (i := 52) (by omega) (by omega)
          refine pm_blk hK zmm180 [] 6 70 [(2, 205), (0, a), (0, b)] [] (pm_up μ2 235 (μ2 205 52) b) [sx_bit Wm 235 = true, 0 ≤ μ2 205 52 ∧ μ2 205 52 < 10] rfl ⟨hb235, ⟨by omega, by omega⟩, trivial⟩ ?_
          obtain ⟨μ3, eμ3⟩ : ∃ μ', μ' = pm_up μ2 235 (μ2 205 52) b := ⟨_, rfl⟩
          rw [← eμ3]
          have hTμ3 : zTJ none μ3 := by rw [eμ3]; exact zT_upn hTμ2 zs235_0 rfl (i := μ2 205 52) (by omega) (by omega) (by omega) (by omega)
          have g4 : μ3 205 52 = μ1 205 52 := by rw [eμ3, pm_up_off (by decide), eμ2, pm_up_off (by decide)]
          have f5 := zT_get hTμ3 zs205_52 (i := 52) (by omega) (by omega)
          refine pm_blk hK zmm180 [] 6 80 [(2, 205), (0, a), (0, b)] [] (pm_up μ3 205 52 ((μ3 205 52) + 1)) [pm_in ((μ3 205 52) + 1), sx_bit Wm 205 = true] rfl ⟨pm_in_mk (by omega) (by omega), hb205, trivial⟩ ?_
          obtain ⟨μ4, eμ4⟩ : ∃ μ', μ' = pm_up μ3 205 52 ((μ3 205 52) + 1) := ⟨_, rfl⟩
          rw [← eμ4]
          have hTμ4 : zTJ none μ4 := by rw [eμ4]; exact zT_upn hTμ3 zs205_52 rfl (i := 52) (by omega) (by omega) (by omega) (by omega)
          have a4 : μ4 205 52 = μ 205 52 + 1 := by rw [eμ4, pm_up_eq, eμ3, pm_up_off (by decide), eμ2, pm_up_off (by decide), b3]
          have f6 := zT_get hTμ4 zs205_52 (i := 52) (by omega) (by omega)
          refine pm_blk hK zmm180 [] 2 84 [(2, 205), (0, a), (0, b)] [(0, μ4 205 52)] μ4 [] rfl trivial ?_
          have zn := zE_a (b := b) (c := μ 205 52) h0 ⟨by omega, by omega, by omega, by omega, by omega⟩
          exact pm_iret rfl rfl ⟨by rw [a4, zn.1], hTμ4, fun q q1 q2 q3 => by rw [eμ4, pm_up_row q1, eμ3, pm_up_row q3, eμ2, pm_up_row q2, b2 q q1], fun k k0 k1 => by rw [eμ4, pm_up_ne k1, eμ3, pm_up_off (by decide), eμ2, pm_up_off (by decide), b1 k k0], by rw [a4, zn.2]⟩
        · have h3 : μ1 205 52 = (10 : Int) := h3
          refine pm_blk hK zmm180 [] 1 49 [(2, 205), (0, a), (0, b)] [(0, (-1))] μ1 [] rfl trivial ?_
          have zn := zE_n (b := b) (c := μ 205 52) h0 (by omega)
          exact pm_iret rfl rfl ⟨by rw [zn.1], hTμ1, fun q q1 _ _ => b2 q q1, fun k k0 _ => b1 k k0, by rw [zn.2]; exact b3⟩
  · have h0 : a = ((-1) : Int) := h0
    refine pm_blk hK zmm180 [] 3 15 [(2, 205), (0, a), (0, b)] [] (pm_up μ1 205 52 0) [sx_bit Wm 205 = true] rfl ⟨hb205, trivial⟩ ?_
    obtain ⟨μ5, eμ5⟩ : ∃ μ', μ' = pm_up μ1 205 52 0 := ⟨_, rfl⟩
    rw [← eμ5]
    have hTμ5 : zTJ none μ5 := by rw [eμ5]; exact zT_upn hTμ1 zs205_52 rfl (i := 52) (by omega) (by omega) (by omega) (by omega)
    refine pm_blk hK zmm180 [] 1 16 [(2, 205), (0, a), (0, b)] [(0, 0)] μ5 [] rfl trivial ?_
    exact pm_iret rfl rfl ⟨by rw [(zE_e h0).1], hTμ5, fun q q1 _ _ => by rw [eμ5, pm_up_row q1, b2 q q1], fun k k0 k1 => by rw [eμ5, pm_up_ne k1, b1 k k0], by rw [(zE_e h0).2, eμ5, pm_up_eq]⟩
end ZHW
