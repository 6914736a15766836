/-! F: the class reckons steps of THE LAW; walks printed by program (wip/p30/pmgen.py) and filled by hand -/
section ZHW
variable {φ : Option pm_Mem}
variable {D : va_G} {Wm : Nat} {ST : List (String × String × String × Nat)} {b0 : sx_B} {l : Launch} {Sg : Nat → Option Nat} {bud : sx_Bu} {μ : pm_Mem} {B0 : Nat → Prop} {J : (Nat → Option Nat) → Heap → Prop}
set_option maxRecDepth 100000 in
theorem fc_wv (hK : zKK ST) {k : Int} (hT : zTJ φ μ) (hk : 0 ≤ k ∧ k ≤ 10) (hbd : 0 ≤ bud.1 ∧ 0 ≤ bud.2.1) : zC D Wm ST b0 l Sg zM221 bud [(2, 177), (0, k)] μ (fun st' μ' => μ = μ' ∧ st' = [(0, μ 178 k)]) := by
  refine pm_blk hK zmm221 [] 1 1 [(2, 177), (0, k)] [(0, k)] μ [] rfl trivial ?_
  refine pm_if hK zmm221 .lt 21 22 rfl rfl (fun h0 => ?_) (fun h0 => ?_)
  · have h0 : k < (0 : Int) := h0
    refine pm_blk hK zmm221 [] 1 23 [(2, 177), (0, k)] [(0, 0)] μ [] rfl trivial ?_
    first
    | (exfalso; omega)
    | exact pm_iret rfl rfl ⟨rfl, rfl⟩
    | (exfalso; omega)
  · have h0 : (0 : Int) ≤ k := h0
    refine pm_blk hK zmm221 [] 4 10 [(2, 177), (0, k)] [(0, 11), (0, k)] μ [] rfl trivial ?_
    refine pm_icmp hK zmm221 .ge 12 22 rfl rfl (fun h1 => ?_) (fun h1 => ?_)
    · have h1 : (11 : Int) ≤ k := h1
      refine pm_blk hK zmm221 [] 1 23 [(2, 177), (0, k)] [(0, 0)] μ [] rfl trivial ?_
      first
      | (exfalso; omega)
      | exact pm_iret rfl rfl ⟨rfl, rfl⟩
      | (exfalso; omega)
    · have h1 : k < (11 : Int) := h1
      have f1 := zT_get hT zs178_0 (i := k) (by omega) (by omega)
      refine pm_blk hK zmm221 [] 5 23 [(2, 177), (0, k)] [(0, μ 178 k)] μ [0 ≤ k ∧ k < 11] rfl ⟨⟨by omega, by omega⟩, trivial⟩ ?_
      first
      | (exfalso; omega)
      | exact pm_iret rfl rfl ⟨rfl, rfl⟩
      | (exfalso; omega)
set_option maxRecDepth 100000 in
theorem fc_chg (hK : zKK ST) {o n v : Int} (hv : pm_in v) (h9 : o = 9 → v = 0 ∨ v = 1) (h5 : o ≠ 9 → 1 ≤ n) (hbd : 0 ≤ bud.1 ∧ 0 ≤ bud.2.1) : zC D Wm ST b0 l Sg zM222 bud [(0, o), (0, n), (0, v)] μ (fun st' μ' => μ = μ' ∧ st' = [(0, if o = 9 then 1 - v else Int.tdiv v n)]) := by
  have hv2 : -2147483648 ≤ v ∧ v ≤ 2147483647 := hv
  refine pm_blk hK zmm222 [] 2 3 [(0, o), (0, n), (0, v)] [(0, 9), (0, o)] μ [] rfl trivial ?_
  refine pm_icmp hK zmm222 .ne 7 10 rfl rfl (fun h0 => ?_) (fun h0 => ?_)
  · have h0 : o ≠ (9 : Int) := h0
    refine pm_blk hK zmm222 [] 1 11 [(0, o), (0, n), (0, v)] [(0, n)] μ [] rfl trivial ?_
    refine pm_if hK zmm222 .ne 7 18 rfl rfl (fun h1 => ?_) (fun h1 => ?_)
    · have h1 : n ≠ (0 : Int) := h1
      have hn := h5 (by omega)
      have hq := ztdiv (x := v) (y := n) (by omega) hv
      have hq2 : -2147483648 ≤ v.tdiv n ∧ v.tdiv n ≤ 2147483647 := hq
      refine pm_blk hK zmm222 [] 3 21 [(0, o), (0, n), (0, v)] [(0, Int.tdiv v n)] μ [n ≠ 0, pm_in (Int.tdiv v n)] rfl ⟨by omega, pm_in_mk (by omega) (by omega), trivial⟩ ?_
      first
      | (exfalso; have hn := h5 (by omega); omega)
      | exact pm_iret rfl rfl ⟨rfl, by rw [if_pos (by omega)]⟩
      | exact pm_iret rfl rfl ⟨rfl, by rw [if_neg (by omega)]⟩
      | (exfalso; omega)
    · have h1 : n = (0 : Int) := h1
      refine pm_blk hK zmm222 [] 2 21 [(0, o), (0, n), (0, v)] [(0, 0)] μ [] rfl trivial ?_
      first
      | (exfalso; have hn := h5 (by omega); omega)
      | exact pm_iret rfl rfl ⟨rfl, by rw [if_pos (by omega)]⟩
      | exact pm_iret rfl rfl ⟨rfl, by rw [if_neg (by omega)]⟩
      | (exfalso; omega)
  · have h0 : o = (9 : Int) := h0
    refine pm_blk hK zmm222 [] 3 9 [(0, o), (0, n), (0, v)] [(0, 1 - v)] μ [pm_in (1 - v)] rfl ⟨pm_in_mk (by omega) (by omega), trivial⟩ ?_
    first
    | (exfalso; have hn := h5 (by omega); omega)
    | exact pm_iret rfl rfl ⟨rfl, by rw [if_pos (by omega)]⟩
    | exact pm_iret rfl rfl ⟨rfl, by rw [if_neg (by omega)]⟩
    | (exfalso; omega)
set_option maxRecDepth 100000 in
theorem fc_join (hK : zKK ST) {o x y : Int} (hbd : 0 ≤ bud.1 ∧ 0 ≤ bud.2.1) : zC D Wm ST b0 l Sg zM223 bud [(0, o), (0, x), (0, y)] μ (fun st' μ' => μ = μ' ∧ st' = [(0, fv_two o x y)] ∧ pm_in (fv_two o x y)) := by
  refine pm_blk hK zmm223 [54, 58, 62] 1 1 [(0, o), (0, x), (0, y)] [(0, o)] μ [] rfl trivial ?_
  have ht0 : (o < 2 ∨ 10 < o) ∨ o = 2 ∨ o = 3 ∨ o = 4 ∨ o = 5 ∨ o = 6 ∨ o = 7 ∨ o = 8 ∨ o = 9 ∨ o = 10 := by omega
  rcases ht0 with ht0 | ht0 | ht0 | ht0 | ht0 | ht0 | ht0 | ht0 | ht0 | ht0
  · refine zp_tout hK zmm223 rfl ht0 (tgt := 101) (by decide) ?_
    refine pm_blk hK zmm223 [54, 58, 62] 3 104 [(0, o), (0, x), (0, y)] [(0, pm_or x y)] μ [] rfl trivial ?_
    have h9 := fv_C11 (o := o) (x := x) (y := y) (by omega) (by omega) (by omega) (by omega) (by omega) (by omega) (by omega)
    exact pm_iret rfl rfl ⟨rfl, by rw [h9], by rw [h9]; exact fc_in32 _⟩
  · refine zp_tin hK zmm223 (off := 51) (tgt := 52) rfl (by omega) (by omega) (by rw [ht0]; rfl) (by decide) ?_
    have w1 := zw32 (x + y)
    refine pm_blk hK zmm223 [54, 58, 62] 3 55 [(0, o), (0, x), (0, y)] [(0, pm_w32 (x + y))] μ [] rfl trivial ?_
    exact pm_iret rfl rfl ⟨rfl, by rw [fv_C2 (by omega)], by rw [fv_C2 (by omega)]; exact zw32 _⟩
  · refine zp_tin hK zmm223 (off := 55) (tgt := 56) rfl (by omega) (by omega) (by rw [ht0]; rfl) (by decide) ?_
    have w2 := zw32 (x - y)
    refine pm_blk hK zmm223 [54, 58, 62] 3 59 [(0, o), (0, x), (0, y)] [(0, pm_w32 (x - y))] μ [] rfl trivial ?_
    exact pm_iret rfl rfl ⟨rfl, by rw [fv_C3 (by omega)], by rw [fv_C3 (by omega)]; exact zw32 _⟩
  · refine zp_tin hK zmm223 (off := 59) (tgt := 60) rfl (by omega) (by omega) (by rw [ht0]; rfl) (by decide) ?_
    have w3 := zw32 (x * y)
    refine pm_blk hK zmm223 [54, 58, 62] 3 63 [(0, o), (0, x), (0, y)] [(0, pm_w32 (x * y))] μ [] rfl trivial ?_
    exact pm_iret rfl rfl ⟨rfl, by rw [fv_C4 (by omega)], by rw [fv_C4 (by omega)]; exact zw32 _⟩
  · refine zp_tin hK zmm223 (off := 100) (tgt := 101) rfl (by omega) (by omega) (by rw [ht0]; rfl) (by decide) ?_
    refine pm_blk hK zmm223 [54, 58, 62] 3 104 [(0, o), (0, x), (0, y)] [(0, pm_or x y)] μ [] rfl trivial ?_
    have h9 := fv_C11 (o := o) (x := x) (y := y) (by omega) (by omega) (by omega) (by omega) (by omega) (by omega) (by omega)
    exact pm_iret rfl rfl ⟨rfl, by rw [h9], by rw [h9]; exact fc_in32 _⟩
  · refine zp_tin hK zmm223 (off := 63) (tgt := 64) rfl (by omega) (by omega) (by rw [ht0]; rfl) (by decide) ?_
    refine pm_blk hK zmm223 [54, 58, 62] 2 66 [(0, o), (0, x), (0, y)] [(0, y), (0, x)] μ [] rfl trivial ?_
    refine pm_icmp hK zmm223 .ge 7 73 rfl rfl (fun h1 => ?_) (fun h1 => ?_)
    · have h1 : y ≤ x := h1
      refine pm_blk hK zmm223 [54, 58, 62] 1 74 [(0, o), (0, x), (0, y)] [(0, 0)] μ [] rfl trivial ?_
      have h9 := fv_C6 (x := x) (y := y) (show o = 6 by omega)
      first
      | (rw [if_pos (by omega)] at h9; exact pm_iret rfl rfl ⟨rfl, by rw [h9], by rw [h9]; exact ⟨by omega, by omega⟩⟩)
      | (rw [if_neg (by omega)] at h9; exact pm_iret rfl rfl ⟨rfl, by rw [h9], by rw [h9]; exact ⟨by omega, by omega⟩⟩)
      | (exfalso; omega)
    · have h1 : x < y := h1
      refine pm_blk hK zmm223 [54, 58, 62] 2 74 [(0, o), (0, x), (0, y)] [(0, 1)] μ [] rfl trivial ?_
      have h9 := fv_C6 (x := x) (y := y) (show o = 6 by omega)
      first
      | (rw [if_pos (by omega)] at h9; exact pm_iret rfl rfl ⟨rfl, by rw [h9], by rw [h9]; exact ⟨by omega, by omega⟩⟩)
      | (rw [if_neg (by omega)] at h9; exact pm_iret rfl rfl ⟨rfl, by rw [h9], by rw [h9]; exact ⟨by omega, by omega⟩⟩)
      | (exfalso; omega)
  · refine zp_tin hK zmm223 (off := 74) (tgt := 75) rfl (by omega) (by omega) (by rw [ht0]; rfl) (by decide) ?_
    refine pm_blk hK zmm223 [54, 58, 62] 2 77 [(0, o), (0, x), (0, y)] [(0, y), (0, x)] μ [] rfl trivial ?_
    refine pm_icmp hK zmm223 .ne 7 84 rfl rfl (fun h2 => ?_) (fun h2 => ?_)
    · have h2 : x ≠ y := h2
      refine pm_blk hK zmm223 [54, 58, 62] 1 85 [(0, o), (0, x), (0, y)] [(0, 0)] μ [] rfl trivial ?_
      have h9 := fv_C7 (x := x) (y := y) (show o = 7 by omega)
      first
      | (rw [if_pos (by omega)] at h9; exact pm_iret rfl rfl ⟨rfl, by rw [h9], by rw [h9]; exact ⟨by omega, by omega⟩⟩)
      | (rw [if_neg (by omega)] at h9; exact pm_iret rfl rfl ⟨rfl, by rw [h9], by rw [h9]; exact ⟨by omega, by omega⟩⟩)
      | (exfalso; omega)
    · have h2 : x = y := h2
      refine pm_blk hK zmm223 [54, 58, 62] 2 85 [(0, o), (0, x), (0, y)] [(0, 1)] μ [] rfl trivial ?_
      have h9 := fv_C7 (x := x) (y := y) (show o = 7 by omega)
      first
      | (rw [if_pos (by omega)] at h9; exact pm_iret rfl rfl ⟨rfl, by rw [h9], by rw [h9]; exact ⟨by omega, by omega⟩⟩)
      | (rw [if_neg (by omega)] at h9; exact pm_iret rfl rfl ⟨rfl, by rw [h9], by rw [h9]; exact ⟨by omega, by omega⟩⟩)
      | (exfalso; omega)
  · refine zp_tin hK zmm223 (off := 85) (tgt := 86) rfl (by omega) (by omega) (by rw [ht0]; rfl) (by decide) ?_
    refine pm_blk hK zmm223 [54, 58, 62] 2 88 [(0, o), (0, x), (0, y)] [(0, y), (0, x)] μ [] rfl trivial ?_
    refine pm_icmp hK zmm223 .le 7 95 rfl rfl (fun h3 => ?_) (fun h3 => ?_)
    · have h3 : x ≤ y := h3
      refine pm_blk hK zmm223 [54, 58, 62] 1 96 [(0, o), (0, x), (0, y)] [(0, 0)] μ [] rfl trivial ?_
      have h9 := fv_C8 (x := x) (y := y) (show o = 8 by omega)
      first
      | (rw [if_pos (by omega)] at h9; exact pm_iret rfl rfl ⟨rfl, by rw [h9], by rw [h9]; exact ⟨by omega, by omega⟩⟩)
      | (rw [if_neg (by omega)] at h9; exact pm_iret rfl rfl ⟨rfl, by rw [h9], by rw [h9]; exact ⟨by omega, by omega⟩⟩)
      | (exfalso; omega)
    · have h3 : y < x := h3
      refine pm_blk hK zmm223 [54, 58, 62] 2 96 [(0, o), (0, x), (0, y)] [(0, 1)] μ [] rfl trivial ?_
      have h9 := fv_C8 (x := x) (y := y) (show o = 8 by omega)
      first
      | (rw [if_pos (by omega)] at h9; exact pm_iret rfl rfl ⟨rfl, by rw [h9], by rw [h9]; exact ⟨by omega, by omega⟩⟩)
      | (rw [if_neg (by omega)] at h9; exact pm_iret rfl rfl ⟨rfl, by rw [h9], by rw [h9]; exact ⟨by omega, by omega⟩⟩)
      | (exfalso; omega)
  · refine zp_tin hK zmm223 (off := 100) (tgt := 101) rfl (by omega) (by omega) (by rw [ht0]; rfl) (by decide) ?_
    refine pm_blk hK zmm223 [54, 58, 62] 3 104 [(0, o), (0, x), (0, y)] [(0, pm_or x y)] μ [] rfl trivial ?_
    have h9 := fv_C11 (o := o) (x := x) (y := y) (by omega) (by omega) (by omega) (by omega) (by omega) (by omega) (by omega)
    exact pm_iret rfl rfl ⟨rfl, by rw [h9], by rw [h9]; exact fc_in32 _⟩
  · refine zp_tin hK zmm223 (off := 96) (tgt := 97) rfl (by omega) (by omega) (by rw [ht0]; rfl) (by decide) ?_
    refine pm_blk hK zmm223 [54, 58, 62] 3 100 [(0, o), (0, x), (0, y)] [(0, pm_and x y)] μ [] rfl trivial ?_
    first
    | exact pm_iret rfl rfl ⟨rfl, by rw [fv_C10 (by omega)], by rw [fv_C10 (by omega)]; exact fc_in32 _⟩
    | (exfalso; omega)
set_option maxRecDepth 100000 in
theorem fc_rec (hK : zKK ST)  {μ0 : pm_Mem} {a b v : Int} (hb : b ≤ 400) (hb179 : sx_bit Wm 179 = true) (hbd : 1 ≤ bud.1 ∧ 22 ≤ bud.2.1) : ∀ (nM : Nat) {top i : Int} {μ : pm_Mem}, (b - i).toNat = nM → ∀ (hi : 0 ≤ i ∧ i ≤ b) (ht : 0 ≤ top ∧ top ≤ 24) (hfr : ∀ r, r ≠ 179 → μ r = μ0 r) (hok : fc_ok (μ0 178) (μ0 19) (μ 179) top i b v) (hT : zTJ φ μ), zW D Wm ST b0 l Sg zM220 bud (pm_X zM220 (fun st' μ' => st' = [(0, v)] ∧ zTJ φ μ' ∧ ∀ r, r ≠ 179 → μ' r = μ0 r)) 10 [(2, 177), (2, 17), (0, a), (0, b), (0, top), (0, i), (9, 0), (9, 0)] [] μ := by
  intro nM
  induction nM using Nat.strongRecOn with
  | ind nM ih =>
    intro top i μ hn hi ht hfr hok hT
    have ht0 := ht.1
    refine pm_blk hK zmm220 [] 2 13 [(2, 177), (2, 17), (0, a), (0, b), (0, top), (0, i), (9, 0), (9, 0)] [(0, b), (0, i)] μ [] rfl trivial ?_
    refine pm_icmp hK zmm220 .ge 177 190 rfl rfl (fun h0 => ?_) (fun h0 => ?_)
    · have h0 : b ≤ i := h0
      refine pm_blk hK zmm220 [] 1 192 [(2, 177), (2, 17), (0, a), (0, b), (0, top), (0, i), (9, 0), (9, 0)] [(0, top)] μ [] rfl trivial ?_
      refine pm_if hK zmm220 .le 15 207 rfl rfl (fun h1 => ?_) (fun h1 => ?_)
      · have h1 : top ≤ (0 : Int) := h1
        refine pm_blk hK zmm220 [] 1 208 [(2, 177), (2, 17), (0, a), (0, b), (0, top), (0, i), (9, 0), (9, 0)] [(0, 0)] μ [] rfl trivial ?_
        first
        | (exfalso; omega)
        | (have hE := fc_ok_e hok (by omega) ht0; first | (exfalso; omega) | exact pm_iret rfl rfl ⟨by rw [show top - 1 = 0 by omega, hE.2], hT, hfr⟩)
      · have h1 : (0 : Int) < top := h1
        have f1 := zT_get hT zs179_0 (i := top - 1) (by omega) (by omega)
        refine pm_blk hK zmm220 [] 7 208 [(2, 177), (2, 17), (0, a), (0, b), (0, top), (0, i), (9, 0), (9, 0)] [(0, μ 179 (top - 1))] μ [pm_in (top - 1), 0 ≤ top - 1 ∧ top - 1 < 32] rfl ⟨pm_in_mk (by omega) (by omega), ⟨by omega, by omega⟩, trivial⟩ ?_
        first
        | (exfalso; omega)
        | (have hE := fc_ok_e hok (by omega) ht0; first | (exfalso; omega) | exact pm_iret rfl rfl ⟨by rw [show top - 1 = 0 by omega, hE.2], hT, hfr⟩)
    · have h0 : i < b := h0
      refine pm_blk hK zmm220 [] 4 23 [(2, 177), (2, 17), (0, a), (0, b), (0, top), (0, i), (9, 0), (9, 0)] [(0, 400), (0, i)] μ [] rfl trivial ?_
      refine pm_icmp hK zmm220 .ge 167 190 rfl rfl (fun h2 => ?_) (fun h2 => ?_)
      · have h2 : (400 : Int) ≤ i := h2
        refine pm_blk hK zmm220 [] 1 192 [(2, 177), (2, 17), (0, a), (0, b), (0, top), (0, i), (9, 0), (9, 0)] [(0, top)] μ [] rfl trivial ?_
        refine pm_if hK zmm220 .le 15 207 rfl rfl (fun h3 => ?_) (fun h3 => ?_)
        · have h3 : top ≤ (0 : Int) := h3
          refine pm_blk hK zmm220 [] 1 208 [(2, 177), (2, 17), (0, a), (0, b), (0, top), (0, i), (9, 0), (9, 0)] [(0, 0)] μ [] rfl trivial ?_
          first
          | (exfalso; omega)
          | (have hE := fc_ok_e hok (by omega) ht0; first | (exfalso; omega) | exact pm_iret rfl rfl ⟨by rw [show top - 1 = 0 by omega, hE.2], hT, hfr⟩)
        · have h3 : (0 : Int) < top := h3
          have f2 := zT_get hT zs179_0 (i := top - 1) (by omega) (by omega)
          refine pm_blk hK zmm220 [] 7 208 [(2, 177), (2, 17), (0, a), (0, b), (0, top), (0, i), (9, 0), (9, 0)] [(0, μ 179 (top - 1))] μ [pm_in (top - 1), 0 ≤ top - 1 ∧ top - 1 < 32] rfl ⟨pm_in_mk (by omega) (by omega), ⟨by omega, by omega⟩, trivial⟩ ?_
          first
          | (exfalso; omega)
          | (have hE := fc_ok_e hok (by omega) ht0; first | (exfalso; omega) | exact pm_iret rfl rfl ⟨by rw [show top - 1 = 0 by omega, hE.2], hT, hfr⟩)
      · have h2 : i < (400 : Int) := h2
        obtain ⟨x, d1, ⟨d2, d2b⟩, d3, d4, d5, d6, d7, d8, d9⟩ := fc_ok_c hok (by omega) ht0
        have c19 : μ 19 i = μ0 19 i := by rw [hfr 19 (by decide)]
        have f19 := zT_get hT zs19_0 (i := i) (by omega) (by omega)
        obtain ⟨eo, en⟩ := fc_cell (c := μ 19 i) (x := x) (by rw [c19]; exact d1) ⟨by omega, by omega⟩ ⟨by omega, by omega⟩
        have d10 := d9
        have f3 := zT_get hT zs19_0 (i := i) (by omega) (by omega)
        refine pm_blk hK zmm220 [] 15 51 [(2, 177), (2, 17), (0, a), (0, b), (0, top), (0, i), (0, pm_and (μ 19 i) 15), (0, pm_shr (μ 19 i) 4)] [(0, pm_and (μ 19 i) 15)] μ [0 ≤ i ∧ i < 400, 0 ≤ i ∧ i < 400] rfl ⟨⟨by omega, by omega⟩, ⟨by omega, by omega⟩, trivial⟩ ?_
        refine pm_if hK zmm220 .eq 9 60 rfl rfl (fun h4 => ?_) (fun h4 => ?_)
        · have h4 : pm_and (μ 19 i) 15 = (0 : Int) := h4
          refine pm_blk hK zmm220 [] 4 67 [(2, 177), (2, 17), (0, a), (0, b), (0, top), (0, i), (0, pm_and (μ 19 i) 15), (0, pm_shr (μ 19 i) 4)] [(0, 32), (0, top)] μ [] rfl trivial ?_
          refine pm_icmp hK zmm220 .ge 117 184 rfl rfl (fun h5 => ?_) (fun h5 => ?_)
          · have h5 : (32 : Int) ≤ top := h5
            refine pm_blk hK zmm220 [] 2 10 [(2, 177), (2, 17), (0, a), (0, b), (0, top), (0, i + 1), (0, pm_and (μ 19 i) 15), (0, pm_shr (μ 19 i) 4)] [] μ [pm_in (i + 1)] rfl ⟨pm_in_mk (by omega) (by omega), trivial⟩ ?_
            refine pm_hide [6, 7] ?_
            exfalso
            omega
          · have h5 : top < (32 : Int) := h5
            refine pm_blk hK zmm220 [] 4 78 [(2, 177), (2, 17), (0, a), (0, b), (0, top), (0, i), (0, pm_and (μ 19 i) 15), (0, pm_shr (μ 19 i) 4)] [(0, pm_and (μ 19 i) 15), (0, top), (2, 179)] μ [] rfl trivial ?_
            refine pm_if hK zmm220 .ne 8 86 rfl rfl (fun h6 => ?_) (fun h6 => ?_)
            · have h6 : pm_and (μ 19 i) 15 ≠ (0 : Int) := h6
              refine pm_blk hK zmm220 [] 2 89 [(2, 177), (2, 17), (0, a), (0, b), (0, top), (0, i), (0, pm_and (μ 19 i) 15), (0, pm_shr (μ 19 i) 4)] [(0, pm_shr (μ 19 i) 4), (2, 177), (0, top), (2, 179)] μ [] rfl trivial ?_
              refine pm_call hK zmm220 (94, 0, 221, 1) zM221 (0, 0) [(2, 177), (0, pm_shr (μ 19 i) 4)] [(0, top), (2, 179)] rfl rfl rfl rfl ⟨by omega, by rw [zn221]; omega⟩ (fc_wv hK (k := (pm_shr (μ 19 i) 4)) hT ⟨by omega, by omega⟩ ⟨Nat.le_refl _, Nat.le_refl _⟩) (fun st1 μc1 hp1 => ?_)
              obtain ⟨rfl, rfl⟩ := hp1
              have f178 := zT_get hT zs178_0 (i := (pm_shr (μ 19 i) 4)) (by omega) (by omega)
              refine pm_blk hK zmm220 [] 1 93 [(2, 177), (2, 17), (0, a), (0, b), (0, top), (0, i), (0, pm_and (μ 19 i) 15), (0, pm_shr (μ 19 i) 4)] [] (pm_up μ 179 top (μ 178 ((pm_shr (μ 19 i) 4)))) [sx_bit Wm 179 = true, 0 ≤ top ∧ top < 32] rfl ⟨hb179, ⟨by omega, by omega⟩, trivial⟩ ?_
              obtain ⟨μ1, eμ1⟩ : ∃ μ', μ' = pm_up μ 179 top (μ 178 ((pm_shr (μ 19 i) 4))) := ⟨_, rfl⟩
              rw [← eμ1]
              have hTμ1 : zTJ φ μ1 := by rw [eμ1]; exact zT_up hT zs179_0 rfl (i := top) (by omega) (by omega) (by omega) (by omega)
              refine pm_blk hK zmm220 [] 4 10 [(2, 177), (2, 17), (0, a), (0, b), (0, top + 1), (0, i + 1), (0, pm_and (μ 19 i) 15), (0, pm_shr (μ 19 i) 4)] [] μ1 [pm_in (top + 1), pm_in (i + 1)] rfl ⟨pm_in_mk (by omega) (by omega), pm_in_mk (by omega) (by omega), trivial⟩ ?_
              refine pm_hide [6, 7] ?_
              have e9 : (i + 1) = i + 1 := by omega
              have g178 : μ 178 = μ0 178 := hfr 178 (by decide)
              rw [e9]
              refine ih _ (by omega) (top := (top + 1)) (i := i + 1) rfl ⟨by omega, by omega⟩ ⟨by omega, by omega⟩ (fun r hr => by rw [eμ1, pm_up_row hr]; exact hfr r hr) ?_ hTμ1
              refine d10 (μ1 179) ((top + 1)) (fun h => ?_) (fun h => ?_) (fun h => ?_) (fun h => ?_) (fun h h1 h5 h9 => ?_)
              · first
                | (exfalso; omega)
                | exact ⟨by omega, by rw [← en]; exact fc_plu eμ1 ht0⟩
                | (exfalso; omega)
              · first
                | (exfalso; omega)
                | exact ⟨by omega, by rw [← en, ← g178]; exact fc_plu eμ1 ht0⟩
                | (exfalso; omega)
              · first
                | (exfalso; omega)
                | exact ⟨by omega, by rw [← hz5 h]; exact fc_plt eμ1 (by omega) (by omega)⟩
                | (exfalso; omega)
              · first
                | (exfalso; omega)
                | exact ⟨by omega, by rw [← hz9 h]; exact fc_plt eμ1 (by omega) (by omega)⟩
                | (exfalso; omega)
              · first
                | (exfalso; omega)
                | exact ⟨by omega, by have e7 := eμ1; rw [show top + (-1) = top - 1 by omega] at e7; rw [← eo]; exact fc_plv e7 rfl (by omega) (by omega)⟩
                | (exfalso; omega)
            · have h6 : pm_and (μ 19 i) 15 = (0 : Int) := h6
              refine pm_blk hK zmm220 [] 3 93 [(2, 177), (2, 17), (0, a), (0, b), (0, top), (0, i), (0, pm_and (μ 19 i) 15), (0, pm_shr (μ 19 i) 4)] [] (pm_up μ 179 top (pm_shr (μ 19 i) 4)) [sx_bit Wm 179 = true, 0 ≤ top ∧ top < 32] rfl ⟨hb179, ⟨by omega, by omega⟩, trivial⟩ ?_
              obtain ⟨μ2, eμ2⟩ : ∃ μ', μ' = pm_up μ 179 top (pm_shr (μ 19 i) 4) := ⟨_, rfl⟩
              rw [← eμ2]
              have hTμ2 : zTJ φ μ2 := by rw [eμ2]; exact zT_up hT zs179_0 rfl (i := top) (by omega) (by omega) (by omega) (by omega)
              refine pm_blk hK zmm220 [] 4 10 [(2, 177), (2, 17), (0, a), (0, b), (0, top + 1), (0, i + 1), (0, pm_and (μ 19 i) 15), (0, pm_shr (μ 19 i) 4)] [] μ2 [pm_in (top + 1), pm_in (i + 1)] rfl ⟨pm_in_mk (by omega) (by omega), pm_in_mk (by omega) (by omega), trivial⟩ ?_
              refine pm_hide [6, 7] ?_
              have e9 : (i + 1) = i + 1 := by omega
              have g178 : μ 178 = μ0 178 := hfr 178 (by decide)
              rw [e9]
              refine ih _ (by omega) (top := (top + 1)) (i := i + 1) rfl ⟨by omega, by omega⟩ ⟨by omega, by omega⟩ (fun r hr => by rw [eμ2, pm_up_row hr]; exact hfr r hr) ?_ hTμ2
              refine d10 (μ2 179) ((top + 1)) (fun h => ?_) (fun h => ?_) (fun h => ?_) (fun h => ?_) (fun h h1 h5 h9 => ?_)
              · first
                | (exfalso; omega)
                | exact ⟨by omega, by rw [← en]; exact fc_plu eμ2 ht0⟩
                | (exfalso; omega)
              · first
                | (exfalso; omega)
                | exact ⟨by omega, by rw [← en, ← g178]; exact fc_plu eμ2 ht0⟩
                | (exfalso; omega)
              · first
                | (exfalso; omega)
                | exact ⟨by omega, by rw [← hz5 h]; exact fc_plt eμ2 (by omega) (by omega)⟩
                | (exfalso; omega)
              · first
                | (exfalso; omega)
                | exact ⟨by omega, by rw [← hz9 h]; exact fc_plt eμ2 (by omega) (by omega)⟩
                | (exfalso; omega)
              · first
                | (exfalso; omega)
                | exact ⟨by omega, by have e7 := eμ2; rw [show top + (-1) = top - 1 by omega] at e7; rw [← eo]; exact fc_plv e7 rfl (by omega) (by omega)⟩
                | (exfalso; omega)
        · have h4 : pm_and (μ 19 i) 15 ≠ (0 : Int) := h4
          refine pm_blk hK zmm220 [] 2 57 [(2, 177), (2, 17), (0, a), (0, b), (0, top), (0, i), (0, pm_and (μ 19 i) 15), (0, pm_shr (μ 19 i) 4)] [(0, 1), (0, pm_and (μ 19 i) 15)] μ [] rfl trivial ?_
          refine pm_icmp hK zmm220 .ne 42 99 rfl rfl (fun h7 => ?_) (fun h7 => ?_)
          · have h7 : pm_and (μ 19 i) 15 ≠ (1 : Int) := h7
            refine pm_blk hK zmm220 [] 2 102 [(2, 177), (2, 17), (0, a), (0, b), (0, top), (0, i), (0, pm_and (μ 19 i) 15), (0, pm_shr (μ 19 i) 4)] [(0, 5), (0, pm_and (μ 19 i) 15)] μ [] rfl trivial ?_
            refine pm_icmp hK zmm220 .eq 10 112 rfl rfl (fun h8 => ?_) (fun h8 => ?_)
            · have h8 : pm_and (μ 19 i) 15 = (5 : Int) := h8
              refine pm_blk hK zmm220 [] 1 114 [(2, 177), (2, 17), (0, a), (0, b), (0, top), (0, i), (0, pm_and (μ 19 i) 15), (0, pm_shr (μ 19 i) 4)] [(0, top)] μ [] rfl trivial ?_
              refine pm_if hK zmm220 .le 70 184 rfl rfl (fun h9 => ?_) (fun h9 => ?_)
              · have h9 : top ≤ (0 : Int) := h9
                refine pm_blk hK zmm220 [] 2 10 [(2, 177), (2, 17), (0, a), (0, b), (0, top), (0, i + 1), (0, pm_and (μ 19 i) 15), (0, pm_shr (μ 19 i) 4)] [] μ [pm_in (i + 1)] rfl ⟨pm_in_mk (by omega) (by omega), trivial⟩ ?_
                refine pm_hide [6, 7] ?_
                exfalso
                omega
              · have h9 : (0 : Int) < top := h9
                have f4 := zT_get hT zs179_0 (i := top - 1) (by omega) (by omega)
                refine pm_blk hK zmm220 [] 13 138 [(2, 177), (2, 17), (0, a), (0, b), (0, top), (0, i), (0, pm_and (μ 19 i) 15), (0, pm_shr (μ 19 i) 4)] [(0, μ 179 (top - 1)), (0, pm_shr (μ 19 i) 4), (0, pm_and (μ 19 i) 15), (0, top - 1), (2, 179)] μ [pm_in (top - 1), pm_in (top - 1), 0 ≤ top - 1 ∧ top - 1 < 32] rfl ⟨pm_in_mk (by omega) (by omega), pm_in_mk (by omega) (by omega), ⟨by omega, by omega⟩, trivial⟩ ?_
                refine pm_call hK zmm220 (97, 1, 222, 3) zM222 (0, 0) [(0, pm_and (μ 19 i) 15), (0, pm_shr (μ 19 i) 4), (0, μ 179 (top - 1))] [(0, top - 1), (2, 179)] rfl rfl rfl rfl ⟨by omega, by rw [zn222]; omega⟩ (fc_chg hK (o := (pm_and (μ 19 i) 15)) (n := (pm_shr (μ 19 i) 4)) (v := (μ 179 (top - 1))) ⟨by omega, by omega⟩ (fun h => by omega) (fun h => by omega) ⟨Nat.le_refl _, Nat.le_refl _⟩) (fun st2 μc2 hp2 => ?_)
                obtain ⟨rfl, rfl⟩ := hp2
                have hz9 : x.1 = 9 → (if (pm_and (μ 19 i) 15) = 9 then 1 - (μ 179 (top - 1)) else Int.tdiv ((μ 179 (top - 1))) ((pm_shr (μ 19 i) 4))) = 1 - (μ 179 (top - 1)) := fun h => if_pos (by omega)
                have hz5 : x.1 = 5 → (if (pm_and (μ 19 i) 15) = 9 then 1 - (μ 179 (top - 1)) else Int.tdiv ((μ 179 (top - 1))) ((pm_shr (μ 19 i) 4))) = Int.tdiv ((μ 179 (top - 1))) x.2 := fun h => by rw [if_neg (by omega), en]
                have hzr : -2147483648 ≤ (if (pm_and (μ 19 i) 15) = 9 then 1 - (μ 179 (top - 1)) else Int.tdiv ((μ 179 (top - 1))) ((pm_shr (μ 19 i) 4))) ∧ (if (pm_and (μ 19 i) 15) = 9 then 1 - (μ 179 (top - 1)) else Int.tdiv ((μ 179 (top - 1))) ((pm_shr (μ 19 i) 4))) ≤ 2147483647 := by
                  by_cases h59 : x.1 = 9
                  · rw [hz9 h59]; omega
                  · rw [hz5 (by omega)]; exact ztdiv (x := (μ 179 (top - 1))) (y := x.2) (by omega) ⟨by omega, by omega⟩
                generalize (if (pm_and (μ 19 i) 15) = 9 then 1 - (μ 179 (top - 1)) else Int.tdiv ((μ 179 (top - 1))) ((pm_shr (μ 19 i) 4))) = zz at hz9 hz5 hzr ⊢
                refine pm_blk hK zmm220 [] 1 142 [(2, 177), (2, 17), (0, a), (0, b), (0, top), (0, i), (0, pm_and (μ 19 i) 15), (0, pm_shr (μ 19 i) 4)] [] (pm_up μ 179 (top - 1) zz) [sx_bit Wm 179 = true, 0 ≤ top - 1 ∧ top - 1 < 32] rfl ⟨hb179, ⟨by omega, by omega⟩, trivial⟩ ?_
                obtain ⟨μ3, eμ3⟩ : ∃ μ', μ' = pm_up μ 179 (top - 1) zz := ⟨_, rfl⟩
                rw [← eμ3]
                have hTμ3 : zTJ φ μ3 := by rw [eμ3]; exact zT_up hT zs179_0 rfl (i := top - 1) (by omega) (by omega) (by omega) (by omega)
                refine pm_blk hK zmm220 [] 3 10 [(2, 177), (2, 17), (0, a), (0, b), (0, top), (0, i + 1), (0, pm_and (μ 19 i) 15), (0, pm_shr (μ 19 i) 4)] [] μ3 [pm_in (i + 1)] rfl ⟨pm_in_mk (by omega) (by omega), trivial⟩ ?_
                refine pm_hide [6, 7] ?_
                have e9 : (i + 1) = i + 1 := by omega
                have g178 : μ 178 = μ0 178 := hfr 178 (by decide)
                rw [e9]
                refine ih _ (by omega) (top := top) (i := i + 1) rfl ⟨by omega, by omega⟩ ⟨by omega, by omega⟩ (fun r hr => by rw [eμ3, pm_up_row hr]; exact hfr r hr) ?_ hTμ3
                refine d10 (μ3 179) (top) (fun h => ?_) (fun h => ?_) (fun h => ?_) (fun h => ?_) (fun h h1 h5 h9 => ?_)
                · first
                  | (exfalso; omega)
                  | exact ⟨by omega, by rw [← en]; exact fc_plu eμ3 ht0⟩
                  | (exfalso; omega)
                · first
                  | (exfalso; omega)
                  | exact ⟨by omega, by rw [← en, ← g178]; exact fc_plu eμ3 ht0⟩
                  | (exfalso; omega)
                · first
                  | (exfalso; omega)
                  | exact ⟨by omega, by rw [← hz5 h]; exact fc_plt eμ3 (by omega) (by omega)⟩
                  | (exfalso; omega)
                · first
                  | (exfalso; omega)
                  | exact ⟨by omega, by rw [← hz9 h]; exact fc_plt eμ3 (by omega) (by omega)⟩
                  | (exfalso; omega)
                · first
                  | (exfalso; omega)
                  | exact ⟨by omega, by have e7 := eμ3; rw [show top + (-1) = top - 1 by omega] at e7; rw [← eo]; exact fc_plv e7 rfl (by omega) (by omega)⟩
                  | (exfalso; omega)
            · have h8 : pm_and (μ 19 i) 15 ≠ (5 : Int) := h8
              refine pm_blk hK zmm220 [] 2 109 [(2, 177), (2, 17), (0, a), (0, b), (0, top), (0, i), (0, pm_and (μ 19 i) 15), (0, pm_shr (μ 19 i) 4)] [(0, 9), (0, pm_and (μ 19 i) 15)] μ [] rfl trivial ?_
              refine pm_icmp hK zmm220 .ne 36 145 rfl rfl (fun h10 => ?_) (fun h10 => ?_)
              · have h10 : pm_and (μ 19 i) 15 ≠ (9 : Int) := h10
                refine pm_blk hK zmm220 [] 2 148 [(2, 177), (2, 17), (0, a), (0, b), (0, top), (0, i), (0, pm_and (μ 19 i) 15), (0, pm_shr (μ 19 i) 4)] [(0, 1), (0, top)] μ [] rfl trivial ?_
                refine pm_icmp hK zmm220 .le 36 184 rfl rfl (fun h11 => ?_) (fun h11 => ?_)
                · have h11 : top ≤ (1 : Int) := h11
                  refine pm_blk hK zmm220 [] 2 10 [(2, 177), (2, 17), (0, a), (0, b), (0, top), (0, i + 1), (0, pm_and (μ 19 i) 15), (0, pm_shr (μ 19 i) 4)] [] μ [pm_in (i + 1)] rfl ⟨pm_in_mk (by omega) (by omega), trivial⟩ ?_
                  refine pm_hide [6, 7] ?_
                  exfalso
                  omega
                · have h11 : (1 : Int) < top := h11
                  have f5 := zT_get hT zs179_0 (i := (top + (-1)) - 1) (by omega) (by omega)
                  have f6 := zT_get hT zs179_0 (i := top + (-1)) (by omega) (by omega)
                  refine pm_blk hK zmm220 [] 17 180 [(2, 177), (2, 17), (0, a), (0, b), (0, top + (-1)), (0, i), (0, pm_and (μ 19 i) 15), (0, pm_shr (μ 19 i) 4)] [(0, μ 179 (top + (-1))), (0, μ 179 ((top + (-1)) - 1)), (0, pm_and (μ 19 i) 15), (0, (top + (-1)) - 1), (2, 179)] μ [pm_in (top + (-1)), pm_in ((top + (-1)) - 1), pm_in ((top + (-1)) - 1), 0 ≤ (top + (-1)) - 1 ∧ (top + (-1)) - 1 < 32, 0 ≤ top + (-1) ∧ top + (-1) < 32] rfl ⟨pm_in_mk (by omega) (by omega), pm_in_mk (by omega) (by omega), pm_in_mk (by omega) (by omega), ⟨by omega, by omega⟩, ⟨by omega, by omega⟩, trivial⟩ ?_
                  refine pm_call hK zmm220 (101, 1, 223, 3) zM223 (0, 0) [(0, pm_and (μ 19 i) 15), (0, μ 179 ((top + (-1)) - 1)), (0, μ 179 (top + (-1)))] [(0, (top + (-1)) - 1), (2, 179)] rfl rfl rfl rfl ⟨by omega, by rw [zn223]; omega⟩ (fc_join hK (o := (pm_and (μ 19 i) 15)) (x := (μ 179 ((top + (-1)) - 1))) (y := (μ 179 (top + (-1)))) ⟨Nat.le_refl _, Nat.le_refl _⟩) (fun st3 μc3 hp3 => ?_)
                  obtain ⟨rfl, rfl, hx3⟩ := hp3
                  have hx3 : -2147483648 ≤ fv_two ((pm_and (μ 19 i) 15)) ((μ 179 ((top + (-1)) - 1))) ((μ 179 (top + (-1)))) ∧ fv_two ((pm_and (μ 19 i) 15)) ((μ 179 ((top + (-1)) - 1))) ((μ 179 (top + (-1)))) ≤ 2147483647 := hx3
                  refine pm_blk hK zmm220 [] 1 184 [(2, 177), (2, 17), (0, a), (0, b), (0, top + (-1)), (0, i), (0, pm_and (μ 19 i) 15), (0, pm_shr (μ 19 i) 4)] [] (pm_up μ 179 ((top + (-1)) - 1) (fv_two ((pm_and (μ 19 i) 15)) ((μ 179 ((top + (-1)) - 1))) ((μ 179 (top + (-1)))))) [sx_bit Wm 179 = true, 0 ≤ (top + (-1)) - 1 ∧ (top + (-1)) - 1 < 32] rfl ⟨hb179, ⟨by omega, by omega⟩, trivial⟩ ?_
                  obtain ⟨μ4, eμ4⟩ : ∃ μ', μ' = pm_up μ 179 ((top + (-1)) - 1) (fv_two ((pm_and (μ 19 i) 15)) ((μ 179 ((top + (-1)) - 1))) ((μ 179 (top + (-1))))) := ⟨_, rfl⟩
                  rw [← eμ4]
                  have hTμ4 : zTJ φ μ4 := by rw [eμ4]; exact zT_up hT zs179_0 rfl (i := (top + (-1)) - 1) (by omega) (by omega) (by omega) (by omega)
                  refine pm_blk hK zmm220 [] 2 10 [(2, 177), (2, 17), (0, a), (0, b), (0, top + (-1)), (0, i + 1), (0, pm_and (μ 19 i) 15), (0, pm_shr (μ 19 i) 4)] [] μ4 [pm_in (i + 1)] rfl ⟨pm_in_mk (by omega) (by omega), trivial⟩ ?_
                  refine pm_hide [6, 7] ?_
                  have e9 : (i + 1) = i + 1 := by omega
                  have g178 : μ 178 = μ0 178 := hfr 178 (by decide)
                  rw [e9]
                  refine ih _ (by omega) (top := (top + (-1))) (i := i + 1) rfl ⟨by omega, by omega⟩ ⟨by omega, by omega⟩ (fun r hr => by rw [eμ4, pm_up_row hr]; exact hfr r hr) ?_ hTμ4
                  refine d10 (μ4 179) ((top + (-1))) (fun h => ?_) (fun h => ?_) (fun h => ?_) (fun h => ?_) (fun h h1 h5 h9 => ?_)
                  · first
                    | (exfalso; omega)
                    | exact ⟨by omega, by rw [← en]; exact fc_plu eμ4 ht0⟩
                    | (exfalso; omega)
                  · first
                    | (exfalso; omega)
                    | exact ⟨by omega, by rw [← en, ← g178]; exact fc_plu eμ4 ht0⟩
                    | (exfalso; omega)
                  · first
                    | (exfalso; omega)
                    | exact ⟨by omega, by rw [← hz5 h]; exact fc_plt eμ4 (by omega) (by omega)⟩
                    | (exfalso; omega)
                  · first
                    | (exfalso; omega)
                    | exact ⟨by omega, by rw [← hz9 h]; exact fc_plt eμ4 (by omega) (by omega)⟩
                    | (exfalso; omega)
                  · first
                    | (exfalso; omega)
                    | exact ⟨by omega, by have e7 := eμ4; rw [show top + (-1) = top - 1 by omega] at e7; rw [← eo]; exact fc_plv e7 rfl (by omega) (by omega)⟩
                    | (exfalso; omega)
              · have h10 : pm_and (μ 19 i) 15 = (9 : Int) := h10
                refine pm_blk hK zmm220 [] 1 114 [(2, 177), (2, 17), (0, a), (0, b), (0, top), (0, i), (0, pm_and (μ 19 i) 15), (0, pm_shr (μ 19 i) 4)] [(0, top)] μ [] rfl trivial ?_
                refine pm_if hK zmm220 .le 70 184 rfl rfl (fun h12 => ?_) (fun h12 => ?_)
                · have h12 : top ≤ (0 : Int) := h12
                  refine pm_blk hK zmm220 [] 2 10 [(2, 177), (2, 17), (0, a), (0, b), (0, top), (0, i + 1), (0, pm_and (μ 19 i) 15), (0, pm_shr (μ 19 i) 4)] [] μ [pm_in (i + 1)] rfl ⟨pm_in_mk (by omega) (by omega), trivial⟩ ?_
                  refine pm_hide [6, 7] ?_
                  exfalso
                  omega
                · have h12 : (0 : Int) < top := h12
                  have f7 := zT_get hT zs179_0 (i := top - 1) (by omega) (by omega)
                  refine pm_blk hK zmm220 [] 13 138 [(2, 177), (2, 17), (0, a), (0, b), (0, top), (0, i), (0, pm_and (μ 19 i) 15), (0, pm_shr (μ 19 i) 4)] [(0, μ 179 (top - 1)), (0, pm_shr (μ 19 i) 4), (0, pm_and (μ 19 i) 15), (0, top - 1), (2, 179)] μ [pm_in (top - 1), pm_in (top - 1), 0 ≤ top - 1 ∧ top - 1 < 32] rfl ⟨pm_in_mk (by omega) (by omega), pm_in_mk (by omega) (by omega), ⟨by omega, by omega⟩, trivial⟩ ?_
                  refine pm_call hK zmm220 (97, 1, 222, 3) zM222 (0, 0) [(0, pm_and (μ 19 i) 15), (0, pm_shr (μ 19 i) 4), (0, μ 179 (top - 1))] [(0, top - 1), (2, 179)] rfl rfl rfl rfl ⟨by omega, by rw [zn222]; omega⟩ (fc_chg hK (o := (pm_and (μ 19 i) 15)) (n := (pm_shr (μ 19 i) 4)) (v := (μ 179 (top - 1))) ⟨by omega, by omega⟩ (fun h => by omega) (fun h => by omega) ⟨Nat.le_refl _, Nat.le_refl _⟩) (fun st4 μc4 hp4 => ?_)
                  obtain ⟨rfl, rfl⟩ := hp4
                  have hz9 : x.1 = 9 → (if (pm_and (μ 19 i) 15) = 9 then 1 - (μ 179 (top - 1)) else Int.tdiv ((μ 179 (top - 1))) ((pm_shr (μ 19 i) 4))) = 1 - (μ 179 (top - 1)) := fun h => if_pos (by omega)
                  have hz5 : x.1 = 5 → (if (pm_and (μ 19 i) 15) = 9 then 1 - (μ 179 (top - 1)) else Int.tdiv ((μ 179 (top - 1))) ((pm_shr (μ 19 i) 4))) = Int.tdiv ((μ 179 (top - 1))) x.2 := fun h => by rw [if_neg (by omega), en]
                  have hzr : -2147483648 ≤ (if (pm_and (μ 19 i) 15) = 9 then 1 - (μ 179 (top - 1)) else Int.tdiv ((μ 179 (top - 1))) ((pm_shr (μ 19 i) 4))) ∧ (if (pm_and (μ 19 i) 15) = 9 then 1 - (μ 179 (top - 1)) else Int.tdiv ((μ 179 (top - 1))) ((pm_shr (μ 19 i) 4))) ≤ 2147483647 := by
                    by_cases h59 : x.1 = 9
                    · rw [hz9 h59]; omega
                    · rw [hz5 (by omega)]; exact ztdiv (x := (μ 179 (top - 1))) (y := x.2) (by omega) ⟨by omega, by omega⟩
                  generalize (if (pm_and (μ 19 i) 15) = 9 then 1 - (μ 179 (top - 1)) else Int.tdiv ((μ 179 (top - 1))) ((pm_shr (μ 19 i) 4))) = zz at hz9 hz5 hzr ⊢
                  refine pm_blk hK zmm220 [] 1 142 [(2, 177), (2, 17), (0, a), (0, b), (0, top), (0, i), (0, pm_and (μ 19 i) 15), (0, pm_shr (μ 19 i) 4)] [] (pm_up μ 179 (top - 1) zz) [sx_bit Wm 179 = true, 0 ≤ top - 1 ∧ top - 1 < 32] rfl ⟨hb179, ⟨by omega, by omega⟩, trivial⟩ ?_
                  obtain ⟨μ5, eμ5⟩ : ∃ μ', μ' = pm_up μ 179 (top - 1) zz := ⟨_, rfl⟩
                  rw [← eμ5]
                  have hTμ5 : zTJ φ μ5 := by rw [eμ5]; exact zT_up hT zs179_0 rfl (i := top - 1) (by omega) (by omega) (by omega) (by omega)
                  refine pm_blk hK zmm220 [] 3 10 [(2, 177), (2, 17), (0, a), (0, b), (0, top), (0, i + 1), (0, pm_and (μ 19 i) 15), (0, pm_shr (μ 19 i) 4)] [] μ5 [pm_in (i + 1)] rfl ⟨pm_in_mk (by omega) (by omega), trivial⟩ ?_
                  refine pm_hide [6, 7] ?_
                  have e9 : (i + 1) = i + 1 := by omega
                  have g178 : μ 178 = μ0 178 := hfr 178 (by decide)
                  rw [e9]
                  refine ih _ (by omega) (top := top) (i := i + 1) rfl ⟨by omega, by omega⟩ ⟨by omega, by omega⟩ (fun r hr => by rw [eμ5, pm_up_row hr]; exact hfr r hr) ?_ hTμ5
                  refine d10 (μ5 179) (top) (fun h => ?_) (fun h => ?_) (fun h => ?_) (fun h => ?_) (fun h h1 h5 h9 => ?_)
                  · first
                    | (exfalso; omega)
                    | exact ⟨by omega, by rw [← en]; exact fc_plu eμ5 ht0⟩
                    | (exfalso; omega)
                  · first
                    | (exfalso; omega)
                    | exact ⟨by omega, by rw [← en, ← g178]; exact fc_plu eμ5 ht0⟩
                    | (exfalso; omega)
                  · first
                    | (exfalso; omega)
                    | exact ⟨by omega, by rw [← hz5 h]; exact fc_plt eμ5 (by omega) (by omega)⟩
                    | (exfalso; omega)
                  · first
                    | (exfalso; omega)
                    | exact ⟨by omega, by rw [← hz9 h]; exact fc_plt eμ5 (by omega) (by omega)⟩
                    | (exfalso; omega)
                  · first
                    | (exfalso; omega)
                    | exact ⟨by omega, by have e7 := eμ5; rw [show top + (-1) = top - 1 by omega] at e7; rw [← eo]; exact fc_plv e7 rfl (by omega) (by omega)⟩
                    | (exfalso; omega)
          · have h7 : pm_and (μ 19 i) 15 = (1 : Int) := h7
            refine pm_blk hK zmm220 [] 4 67 [(2, 177), (2, 17), (0, a), (0, b), (0, top), (0, i), (0, pm_and (μ 19 i) 15), (0, pm_shr (μ 19 i) 4)] [(0, 32), (0, top)] μ [] rfl trivial ?_
            refine pm_icmp hK zmm220 .ge 117 184 rfl rfl (fun h13 => ?_) (fun h13 => ?_)
            · have h13 : (32 : Int) ≤ top := h13
              refine pm_blk hK zmm220 [] 2 10 [(2, 177), (2, 17), (0, a), (0, b), (0, top), (0, i + 1), (0, pm_and (μ 19 i) 15), (0, pm_shr (μ 19 i) 4)] [] μ [pm_in (i + 1)] rfl ⟨pm_in_mk (by omega) (by omega), trivial⟩ ?_
              refine pm_hide [6, 7] ?_
              exfalso
              omega
            · have h13 : top < (32 : Int) := h13
              refine pm_blk hK zmm220 [] 4 78 [(2, 177), (2, 17), (0, a), (0, b), (0, top), (0, i), (0, pm_and (μ 19 i) 15), (0, pm_shr (μ 19 i) 4)] [(0, pm_and (μ 19 i) 15), (0, top), (2, 179)] μ [] rfl trivial ?_
              refine pm_if hK zmm220 .ne 8 86 rfl rfl (fun h14 => ?_) (fun h14 => ?_)
              · have h14 : pm_and (μ 19 i) 15 ≠ (0 : Int) := h14
                refine pm_blk hK zmm220 [] 2 89 [(2, 177), (2, 17), (0, a), (0, b), (0, top), (0, i), (0, pm_and (μ 19 i) 15), (0, pm_shr (μ 19 i) 4)] [(0, pm_shr (μ 19 i) 4), (2, 177), (0, top), (2, 179)] μ [] rfl trivial ?_
                refine pm_call hK zmm220 (94, 0, 221, 1) zM221 (0, 0) [(2, 177), (0, pm_shr (μ 19 i) 4)] [(0, top), (2, 179)] rfl rfl rfl rfl ⟨by omega, by rw [zn221]; omega⟩ (fc_wv hK (k := (pm_shr (μ 19 i) 4)) hT ⟨by omega, by omega⟩ ⟨Nat.le_refl _, Nat.le_refl _⟩) (fun st5 μc5 hp5 => ?_)
                obtain ⟨rfl, rfl⟩ := hp5
                have f178 := zT_get hT zs178_0 (i := (pm_shr (μ 19 i) 4)) (by omega) (by omega)
                refine pm_blk hK zmm220 [] 1 93 [(2, 177), (2, 17), (0, a), (0, b), (0, top), (0, i), (0, pm_and (μ 19 i) 15), (0, pm_shr (μ 19 i) 4)] [] (pm_up μ 179 top (μ 178 ((pm_shr (μ 19 i) 4)))) [sx_bit Wm 179 = true, 0 ≤ top ∧ top < 32] rfl ⟨hb179, ⟨by omega, by omega⟩, trivial⟩ ?_
                obtain ⟨μ6, eμ6⟩ : ∃ μ', μ' = pm_up μ 179 top (μ 178 ((pm_shr (μ 19 i) 4))) := ⟨_, rfl⟩
                rw [← eμ6]
                have hTμ6 : zTJ φ μ6 := by rw [eμ6]; exact zT_up hT zs179_0 rfl (i := top) (by omega) (by omega) (by omega) (by omega)
                refine pm_blk hK zmm220 [] 4 10 [(2, 177), (2, 17), (0, a), (0, b), (0, top + 1), (0, i + 1), (0, pm_and (μ 19 i) 15), (0, pm_shr (μ 19 i) 4)] [] μ6 [pm_in (top + 1), pm_in (i + 1)] rfl ⟨pm_in_mk (by omega) (by omega), pm_in_mk (by omega) (by omega), trivial⟩ ?_
                refine pm_hide [6, 7] ?_
                have e9 : (i + 1) = i + 1 := by omega
                have g178 : μ 178 = μ0 178 := hfr 178 (by decide)
                rw [e9]
                refine ih _ (by omega) (top := (top + 1)) (i := i + 1) rfl ⟨by omega, by omega⟩ ⟨by omega, by omega⟩ (fun r hr => by rw [eμ6, pm_up_row hr]; exact hfr r hr) ?_ hTμ6
                refine d10 (μ6 179) ((top + 1)) (fun h => ?_) (fun h => ?_) (fun h => ?_) (fun h => ?_) (fun h h1 h5 h9 => ?_)
                · first
                  | (exfalso; omega)
                  | exact ⟨by omega, by rw [← en]; exact fc_plu eμ6 ht0⟩
                  | (exfalso; omega)
                · first
                  | (exfalso; omega)
                  | exact ⟨by omega, by rw [← en, ← g178]; exact fc_plu eμ6 ht0⟩
                  | (exfalso; omega)
                · first
                  | (exfalso; omega)
                  | exact ⟨by omega, by rw [← hz5 h]; exact fc_plt eμ6 (by omega) (by omega)⟩
                  | (exfalso; omega)
                · first
                  | (exfalso; omega)
                  | exact ⟨by omega, by rw [← hz9 h]; exact fc_plt eμ6 (by omega) (by omega)⟩
                  | (exfalso; omega)
                · first
                  | (exfalso; omega)
                  | exact ⟨by omega, by have e7 := eμ6; rw [show top + (-1) = top - 1 by omega] at e7; rw [← eo]; exact fc_plv e7 rfl (by omega) (by omega)⟩
                  | (exfalso; omega)
              · have h14 : pm_and (μ 19 i) 15 = (0 : Int) := h14
                refine pm_blk hK zmm220 [] 3 93 [(2, 177), (2, 17), (0, a), (0, b), (0, top), (0, i), (0, pm_and (μ 19 i) 15), (0, pm_shr (μ 19 i) 4)] [] (pm_up μ 179 top (pm_shr (μ 19 i) 4)) [sx_bit Wm 179 = true, 0 ≤ top ∧ top < 32] rfl ⟨hb179, ⟨by omega, by omega⟩, trivial⟩ ?_
                obtain ⟨μ7, eμ7⟩ : ∃ μ', μ' = pm_up μ 179 top (pm_shr (μ 19 i) 4) := ⟨_, rfl⟩
                rw [← eμ7]
                have hTμ7 : zTJ φ μ7 := by rw [eμ7]; exact zT_up hT zs179_0 rfl (i := top) (by omega) (by omega) (by omega) (by omega)
                refine pm_blk hK zmm220 [] 4 10 [(2, 177), (2, 17), (0, a), (0, b), (0, top + 1), (0, i + 1), (0, pm_and (μ 19 i) 15), (0, pm_shr (μ 19 i) 4)] [] μ7 [pm_in (top + 1), pm_in (i + 1)] rfl ⟨pm_in_mk (by omega) (by omega), pm_in_mk (by omega) (by omega), trivial⟩ ?_
                refine pm_hide [6, 7] ?_
                have e9 : (i + 1) = i + 1 := by omega
                have g178 : μ 178 = μ0 178 := hfr 178 (by decide)
                rw [e9]
                refine ih _ (by omega) (top := (top + 1)) (i := i + 1) rfl ⟨by omega, by omega⟩ ⟨by omega, by omega⟩ (fun r hr => by rw [eμ7, pm_up_row hr]; exact hfr r hr) ?_ hTμ7
                refine d10 (μ7 179) ((top + 1)) (fun h => ?_) (fun h => ?_) (fun h => ?_) (fun h => ?_) (fun h h1 h5 h9 => ?_)
                · first
                  | (exfalso; omega)
                  | exact ⟨by omega, by rw [← en]; exact fc_plu eμ7 ht0⟩
                  | (exfalso; omega)
                · first
                  | (exfalso; omega)
                  | exact ⟨by omega, by rw [← en, ← g178]; exact fc_plu eμ7 ht0⟩
                  | (exfalso; omega)
                · first
                  | (exfalso; omega)
                  | exact ⟨by omega, by rw [← hz5 h]; exact fc_plt eμ7 (by omega) (by omega)⟩
                  | (exfalso; omega)
                · first
                  | (exfalso; omega)
                  | exact ⟨by omega, by rw [← hz9 h]; exact fc_plt eμ7 (by omega) (by omega)⟩
                  | (exfalso; omega)
                · first
                  | (exfalso; omega)
                  | exact ⟨by omega, by have e7 := eμ7; rw [show top + (-1) = top - 1 by omega] at e7; rw [← eo]; exact fc_plv e7 rfl (by omega) (by omega)⟩
                  | (exfalso; omega)
set_option maxRecDepth 100000 in
theorem fc_reck (hK : zKK ST) {a b v : Int} (ha : 0 ≤ a ∧ a ≤ b) (hb : b ≤ 400) (hok : fc_ok (μ 178) (μ 19) (μ 179) 0 a b v) (hT : zTJ φ μ) (hb179 : sx_bit Wm 179 = true) (hbd : 1 ≤ bud.1 ∧ 22 ≤ bud.2.1) : zC D Wm ST b0 l Sg zM220 bud [(2, 177), (2, 17), (0, a), (0, b)] μ (fun st' μ' => st' = [(0, v)] ∧ zTJ φ μ' ∧ ∀ r, r ≠ 179 → μ' r = μ r) := by
  refine pm_blk hK zmm220 [] 4 5 [(2, 177), (2, 17), (0, a), (0, b), (0, 0), (9, 0), (9, 0), (9, 0)] [(0, a), (0, 0)] μ [] rfl trivial ?_
  refine pm_call hK zmm220 (54, 1, 34, 2) zM34 (0, 0) [(0, 0), (0, a)] [] rfl rfl rfl rfl ⟨by omega, by rw [zn34]; omega⟩ (zh_max hK ⟨Nat.le_refl _, Nat.le_refl _⟩) (fun st1 μc1 hp1 => ?_)
  obtain ⟨rfl, rfl⟩ := hp1
  refine pm_blk hK zmm220 [] 1 10 [(2, 177), (2, 17), (0, a), (0, b), (0, 0), (0, max 0 a), (9, 0), (9, 0)] [] μ [] rfl trivial ?_
  have e5 : (max 0 a) = a := by omega
  rw [e5]
  exact fc_rec hK (μ0 := μ) hb hb179 hbd _ (top := 0) (i := a) rfl ⟨by omega, by omega⟩ ⟨by omega, by omega⟩ (fun r _ => rfl) hok hT
end ZHW
