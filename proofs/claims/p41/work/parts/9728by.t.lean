/-! F: the reference: HOURS; walks printed by program (wip/p30/pmgen.py) and filled by hand -/
section ZHW
variable {D : va_G} {Wm : Nat} {ST : List (String × String × String × Nat)} {b0 : sx_B} {l : Launch} {Sg : Nat → Option Nat} {bud : sx_Bu} {μ : pm_Mem} {B0 : Nat → Prop} {J : (Nat → Option Nat) → Heap → Prop}
set_option maxRecDepth 100000 in
theorem fs_hol (hK : zKK ST)  {μ0 : pm_Mem} {n : Int} (hn60 : n ≤ 60) (h5 : μ0 205 5 = 0) (f70 : 0 ≤ μ0 205 7 ∧ μ0 205 7 ≤ 18) {ls : List (Int × List zIw × List zIw)} (hL : fr_L μ0 0 ls) (hb205 : sx_bit Wm 205 = true) (hb206 : sx_bit Wm 206 = true) (hb207 : sx_bit Wm 207 = true) (hb210 : sx_bit Wm 210 = true) (hb224 : sx_bit Wm 224 = true) (hb225 : sx_bit Wm 225 = true) (hbd : 8 ≤ bud.1 ∧ 194 ≤ bud.2.1) : ∀ (nM : Nat) {q k : Int} {μ : pm_Mem}, (n - k).toNat = nM → ∀ (hk : 0 ≤ k ∧ k ≤ n) (hqb : 0 ≤ q ∧ q ≤ 18 * k) (hT : zTJ none μ) (hq : q = fa_sum (fr_law ls) (μ0 221) (μ0 222) (μ0 209) (μ0 205 33) (μ0 205 35) (μ0 205 6) (μ0 205 7) k.toNat ((μ0 206, μ0 210), μ0 207, μ0 205 3)) (hZ : ((μ 206, μ 210), μ 207, μ 205 3) = fa_its (fr_law ls) (μ0 221) (μ0 222) (μ0 209) (μ0 205 33) (μ0 205 35) (μ0 205 6) (μ0 205 7) k.toNat ((μ0 206, μ0 210), μ0 207, μ0 205 3)) (h5a : (∀ k : Int, k ≠ 0 → k ≠ 3 → μ 205 k = μ0 205 k)) (hfa : (∀ r, r ≠ 205 → r ≠ 206 → r ≠ 207 → r ≠ 210 → r ≠ 224 → r ≠ 225 → μ r = μ0 r)), zW D Wm ST b0 l Sg zM154 bud (pm_X zM154 (fun st' μ' => st' = [(0, fa_sum (fr_law ls) (μ0 221) (μ0 222) (μ0 209) (μ0 205 33) (μ0 205 35) (μ0 205 6) (μ0 205 7) n.toNat ((μ0 206, μ0 210), μ0 207, μ0 205 3))] ∧ zTJ none μ' ∧ ((μ' 206, μ' 210), μ' 207, μ' 205 3) = fa_its (fr_law ls) (μ0 221) (μ0 222) (μ0 209) (μ0 205 33) (μ0 205 35) (μ0 205 6) (μ0 205 7) n.toNat ((μ0 206, μ0 210), μ0 207, μ0 205 3) ∧ (∀ k : Int, k ≠ 0 → k ≠ 3 → μ' 205 k = μ0 205 k) ∧ (∀ r, r ≠ 205 → r ≠ 206 → r ≠ 207 → r ≠ 210 → r ≠ 224 → r ≠ 225 → μ' r = μ0 r))) 46 [(2, 205), (0, n), (0, q), (0, k)] [] μ := by
  intro nM
  induction nM using Nat.strongRecOn with
  | ind nM ih =>
    intro q k μ hn hk hqb hT hq hZ h5a hfa
    have e1k : (k + 1).toNat = k.toNat + 1 := by omega
    refine pm_blk hK zmm154 [] 2 48 [(2, 205), (0, n), (0, q), (0, k)] [(0, n), (0, k)] μ [] rfl trivial ?_
    refine pm_icmp hK zmm154 .ge 20 68 rfl rfl (fun h0 => ?_) (fun h0 => ?_)
    · have h0 : n ≤ k := h0
      refine pm_blk hK zmm154 [] 1 69 [(2, 205), (0, n), (0, q), (0, k)] [(0, q)] μ [] rfl trivial ?_
      have ek : k.toNat = n.toNat := by omega
      exact pm_iret rfl rfl ⟨by rw [hq, ek], hT, by rw [hZ, ek], h5a, hfa⟩
    · have h0 : k < n := h0
      refine pm_blk hK zmm154 [] 1 52 [(2, 205), (0, n), (0, q), (0, k)] [(2, 205)] μ [] rfl trivial ?_
      refine pm_call hK zmm154 (368, 0, 153, 0) zM153 (0, 0) [(2, 205)] [] rfl rfl rfl rfl ⟨by omega, by rw [zn153]; omega⟩ (fs_keep hK hT hb205 hb207 ⟨Nat.le_refl _, Nat.le_refl _⟩) (fun st1 μc1 hp1 => ?_)
      obtain ⟨rfl, hTc1, hk71, hk31, hk51, hkr1⟩ := hp1
      have k7 := hk71
      have k3 := hk31
      have k5 : (∀ k : Int, k ≠ 0 → k ≠ 3 → μc1 205 k = μ0 205 k) := fun k h0 h3 => (hk51 k h3).trans (h5a k h0 h3)
      have k6 := hkr1 206 (by decide) (by decide)
      have k10 := hkr1 210 (by decide) (by decide)
      have kr : (∀ r, r ≠ 205 → r ≠ 206 → r ≠ 207 → r ≠ 210 → r ≠ 224 → r ≠ 225 → μc1 r = μ0 r) := fun r r5 r6 r7 r10 r24 r25 => (hkr1 r r5 r7).trans (hfa r r5 r6 r7 r10 r24 r25)
      have hL2 := fr_L_fr (fun r a b => kr r (by omega) (by omega) (by omega) (by omega) (by omega) (by omega)) hL
      have e1 := kr 221 (by decide) (by decide) (by decide) (by decide) (by decide) (by decide)
      have e2 := kr 222 (by decide) (by decide) (by decide) (by decide) (by decide) (by decide)
      have e9 := kr 209 (by decide) (by decide) (by decide) (by decide) (by decide) (by decide)
      have q33 := k5 33 (by decide) (by decide)
      have q35 := k5 35 (by decide) (by decide)
      have q6 := k5 6 (by decide) (by decide)
      have q7 := k5 7 (by decide) (by decide)
      have q5 := k5 5 (by decide) (by decide)
      refine pm_blk hK zmm154 [] 2 57 [(2, 205), (0, n), (0, q), (0, k)] [(2, 205), (0, q)] μc1 [] rfl trivial ?_
      refine pm_call hK zmm154 (404, 0, 155, 0) zM155 (7, 170) [(2, 205)] [(0, q)] rfl rfl rfl rfl ⟨by omega, by rw [zn155]; omega⟩ (fr_goesBy hK (th := false) (ls := ls) (fa_th_f (by rw [q5]; exact h5)) hL2 hTc1 hb206 hb210 hb224 hb225 ⟨Nat.le_refl _, Nat.le_refl _⟩) (fun st2 μc2 hp2 => ?_)
      obtain ⟨rfl, hTc2, hn2, hf2⟩ := hp2
      have hn := hn2
      have hff := hf2
      rw [e1, e2, e9, q33, q35, q6, q7, k6, k10] at hn
      have hst := fs_its hZ k7 k3 hn rfl
      have hmb := fa_many_b (th := false) (t := fr_law ls) (R := μ0 221) (D := μ0 222) (pol := μ0 209) (rn := μ0 205 33) (dn := μ0 205 35) (n := μ0 205 6) (S := (μ 206, μ 210)) ⟨f70.1, f70.2⟩
      rw [e1, e2, e9, q33, q35, q6, q7, k6, k10]
      refine pm_blk hK zmm154 [] 4 46 [(2, 205), (0, n), (0, q + (fa_many false (fr_law ls) (μ0 221) (μ0 222) (μ0 209) (μ0 205 33) (μ0 205 35) (μ0 205 6) (μ0 205 7) (μ 206, μ 210))), (0, k + 1)] [] μc2 [pm_in (q + (fa_many false (fr_law ls) (μ0 221) (μ0 222) (μ0 209) (μ0 205 33) (μ0 205 35) (μ0 205 6) (μ0 205 7) (μ 206, μ 210))), pm_in (k + 1)] rfl ⟨pm_in_mk (by omega) (by omega), pm_in_mk (by omega) (by omega), trivial⟩ ?_
      exact ih _ (by omega) rfl ⟨by omega, by omega⟩ ⟨by omega, by omega⟩ hTc2 (by rw [e1k, hst.2, hq]) (by rw [e1k, ← hst.1, hff 207 (by decide) (by decide) (by decide) (by decide), hff 205 (by decide) (by decide) (by decide) (by decide)]) (fun k h0 h3 => by rw [hff 205 (by decide) (by decide) (by decide) (by decide)]; exact k5 k h0 h3) (fun r r5 r6 r7 r10 r24 r25 => (hff r r6 r10 r24 r25).trans (kr r r5 r6 r7 r10 r24 r25))
set_option maxRecDepth 100000 in
theorem fs_hours (hK : zKK ST) {n : Int} (hT : zTJ none μ) {ls : List (Int × List zIw × List zIw)} (hL : fr_L μ 0 ls) (h5 : μ 205 5 = 0) (hb205 : sx_bit Wm 205 = true) (hb206 : sx_bit Wm 206 = true) (hb207 : sx_bit Wm 207 = true) (hb210 : sx_bit Wm 210 = true) (hb224 : sx_bit Wm 224 = true) (hb225 : sx_bit Wm 225 = true) (hbd : 8 ≤ bud.1 ∧ 194 ≤ bud.2.1) : zC D Wm ST b0 l Sg zM154 bud [(2, 205), (0, n)] μ (fun st' μ' => zTJ none μ' ∧ (((1 ≤ n ∧ n ≤ 60) ∧ pm_w32 (μ 206 0 + Int.tdiv (μ 206 1 + n) 12) ≤ 9990 ∧ st' = [(0, fa_sum (fr_law ls) (μ 221) (μ 222) (μ 209) (μ 205 33) (μ 205 35) (μ 205 6) (μ 205 7) n.toNat ((μ 206, μ 210), μ 207, μ 205 3))] ∧ ((μ' 206, μ' 210), μ' 207, μ' 205 3) = fa_its (fr_law ls) (μ 221) (μ 222) (μ 209) (μ 205 33) (μ 205 35) (μ 205 6) (μ 205 7) n.toNat ((μ 206, μ 210), μ 207, μ 205 3) ∧ (∀ k : Int, k ≠ 0 → k ≠ 3 → μ' 205 k = μ 205 k) ∧ (∀ r, r ≠ 205 → r ≠ 206 → r ≠ 207 → r ≠ 210 → r ≠ 224 → r ≠ 225 → μ' r = μ r)) ∨ (¬ ((1 ≤ n ∧ n ≤ 60) ∧ pm_w32 (μ 206 0 + Int.tdiv (μ 206 1 + n) 12) ≤ 9990) ∧ st' = [(0, -1)] ∧ (∀ k : Int, k ≠ 0 → μ' 205 k = μ 205 k) ∧ ∀ r, r ≠ 205 → μ' r = μ r))) := by
  have f7 := zT_get hT zs205_7 (i := 7) (by omega) (by omega)
  have f60 := zT_get hT zs206_1 (i := 1) (by omega) (by omega)
  refine pm_blk hK zmm154 [33] 3 5 [(2, 205), (0, n), (9, 0), (9, 0)] [] (pm_up μ 205 0 0) [sx_bit Wm 205 = true] rfl ⟨hb205, trivial⟩ ?_
  obtain ⟨μ1, eμ1⟩ : ∃ μ', μ' = pm_up μ 205 0 0 := ⟨_, rfl⟩
  rw [← eμ1]
  have hTμ1 : zTJ none μ1 := by rw [eμ1]; exact zT_upn hT zs205_0 rfl (i := 0) (by omega) (by omega) (by omega) (by omega)
  have b1 : ∀ k : Int, k ≠ 0 → μ1 205 k = μ 205 k := fun k hk => by rw [eμ1, pm_up_ne hk]
  have b2 : ∀ r, r ≠ 205 → μ1 r = μ r := fun r hr => by rw [eμ1, pm_up_row hr]
  have bn := b2 206 (by decide)
  have hL1 := fr_L_fr (fun r a b => b2 r (by omega)) hL
  have c60 : μ1 206 1 = μ 206 1 := by rw [bn]
  have c61 : μ1 206 0 = μ 206 0 := by rw [bn]
  refine pm_blk hK zmm154 [33] 4 10 [(2, 205), (0, n), (9, 0), (9, 0)] [(0, 60), (0, 1), (0, n), (2, 205)] μ1 [] rfl trivial ?_
  refine pm_call hK zmm154 (158, 0, 129, 3) zM129 (0, 0) [(2, 205), (0, n), (0, 1), (0, 60)] [] rfl rfl rfl rfl ⟨by omega, by rw [zn129]; omega⟩ (zh_isIn hK ⟨by omega, by omega⟩) (fun st1 μc1 hp1 => ?_)
  obtain ⟨rfl, rfl⟩ := hp1
  refine pm_if hK zmm154 .eq 27 40 rfl rfl (fun h0 => ?_) (fun h0 => ?_)
  · have h0 : (if 1 ≤ n ∧ n ≤ 60 then 1 else 0 : Int) = (0 : Int) := h0
    have h0 := zif0 h0
    refine pm_blk hK zmm154 [33] 1 41 [(2, 205), (0, n), (9, 0), (9, 0)] [(0, (-1))] μ1 [] rfl trivial ?_
    first
    | exact pm_iret rfl rfl ⟨hTμ1, Or.inr ⟨fun k => by obtain ⟨k1, -⟩ := k; omega, rfl, b1, b2⟩⟩
    | exact pm_iret rfl rfl ⟨hTμ1, Or.inr ⟨fun k => by obtain ⟨-, k2⟩ := k; rw [← c61, ← c60] at k2; omega, rfl, b1, b2⟩⟩
    | (exfalso; omega)
  · have h0 : (if 1 ≤ n ∧ n ≤ 60 then 1 else 0 : Int) ≠ (0 : Int) := h0
    have h0 := zif1 h0
    have g1 : μ1 206 0 = μ 206 0 := by rw [eμ1, pm_up_off (by decide)]
    have f2 := zT_get hTμ1 zs206_0 (i := 0) (by omega) (by omega)
    refine pm_blk hK zmm154 [33] 5 23 [(2, 205), (0, n), (9, 0), (9, 0)] [(2, 205), (0, μ1 206 0)] μ1 [0 ≤ 0 ∧ 0 < 160] rfl ⟨⟨by omega, by omega⟩, trivial⟩ ?_
    have hdv : Int.tdiv (μ1 206 1 + n) 12 = (μ1 206 1 + n) / 12 := Int.tdiv_eq_ediv_of_nonneg (by omega)
    have g3 : μ1 206 1 = μ 206 1 := by rw [eμ1, pm_up_off (by decide)]
    have f4 := zT_get hTμ1 zs206_1 (i := 1) (by omega) (by omega)
    have w5 := zw32 ((μ1 206 0) + (Int.tdiv ((μ1 206 1) + n) 12))
    refine pm_blk hK zmm154 [33] 9 37 [(2, 205), (0, n), (9, 0), (9, 0)] [(0, 9990), (0, pm_w32 ((μ1 206 0) + (Int.tdiv ((μ1 206 1) + n) 12)))] μ1 [0 ≤ 1 ∧ 1 < 160, pm_in ((μ1 206 1) + n), 12 ≠ 0, pm_in (Int.tdiv ((μ1 206 1) + n) 12)] rfl ⟨⟨by omega, by omega⟩, pm_in_mk (by omega) (by omega), by omega, pm_in_mk (by omega) (by omega), trivial⟩ ?_
    refine pm_icmp hK zmm154 .le 5 42 rfl rfl (fun h1 => ?_) (fun h1 => ?_)
    · have h1 : pm_w32 ((μ1 206 0) + (Int.tdiv ((μ1 206 1) + n) 12)) ≤ (9990 : Int) := h1
      refine pm_blk hK zmm154 [33] 4 46 [(2, 205), (0, n), (0, 0), (0, 0)] [] μ1 [] rfl trivial ?_
      have bz : ∀ r, r ≠ 205 → μ1 r = μ r := b2
      refine pm_then (fs_hol hK (μ0 := μ1) (n := n) (by omega) (by rw [b1 5 (by decide)]; exact h5) ⟨by rw [b1 7 (by decide)]; omega, by rw [b1 7 (by decide)]; omega⟩ hL1 hb205 hb206 hb207 hb210 hb224 hb225 hbd _ (q := 0) (k := 0) rfl ⟨by omega, by omega⟩ ⟨by omega, by omega⟩ hTμ1 rfl rfl (fun _ _ _ => rfl) (fun _ _ _ _ _ _ _ => rfl)) (fun _ _ st9 μ9 hX9 => ?_)
      obtain ⟨h10, k1, k2, k3, k4, k5⟩ := hX9
      rw [b2 221 (by decide), b2 222 (by decide), b2 209 (by decide), b1 33 (by decide), b1 35 (by decide), b1 6 (by decide), b1 7 (by decide), b2 206 (by decide), b2 210 (by decide), b2 207 (by decide), b1 3 (by decide)] at k1 k3
      exact pm_exit ⟨h10, k2, Or.inl ⟨⟨by omega, by omega⟩, by rw [← c61, ← c60]; omega, k1, k3, fun k h0 h3 => (k4 k h0 h3).trans (b1 k h0), fun r r5 r6 r7 r10 r24 r25 => (k5 r r5 r6 r7 r10 r24 r25).trans (b2 r r5)⟩⟩
    · have h1 : (9990 : Int) < pm_w32 ((μ1 206 0) + (Int.tdiv ((μ1 206 1) + n) 12)) := h1
      refine pm_blk hK zmm154 [33] 1 41 [(2, 205), (0, n), (9, 0), (9, 0)] [(0, (-1))] μ1 [] rfl trivial ?_
      first
      | exact pm_iret rfl rfl ⟨hTμ1, Or.inr ⟨fun k => by obtain ⟨k1, -⟩ := k; omega, rfl, b1, b2⟩⟩
      | exact pm_iret rfl rfl ⟨hTμ1, Or.inr ⟨fun k => by obtain ⟨-, k2⟩ := k; rw [← c61, ← c60] at k2; omega, rfl, b1, b2⟩⟩
      | (exfalso; omega)
end ZHW
