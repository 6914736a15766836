/-! a deed, the day that begins; walks printed by program (wip/p30/pmgen.py) and filled by hand -/
section ZHW
variable {D : va_G} {Wm : Nat} {ST : List (String × String × String × Nat)} {b0 : sx_B} {l : Launch} {Sg : Nat → Option Nat} {bud : sx_Bu} {μ : pm_Mem} {B0 : Nat → Prop} {J : (Nat → Option Nat) → Heap → Prop}
set_option maxRecDepth 100000 in
theorem zh_does (hK : zKK ST) {j : Int} (hT : zTJ μ) (hj : 0 ≤ j ∧ j < 16) (hd : zDeed (μ 222 (4 * j + 1)) (μ 222 (4 * j + 2)) (μ 222 (4 * j + 3))) (hb206 : sx_bit Wm 206 = true) (hb210 : sx_bit Wm 210 = true) (hbd : 1 ≤ bud.1 ∧ 24 ≤ bud.2.1) : zC D Wm ST b0 l Sg zM311 bud [(2, 205), (0, 4 * j)] μ (fun st' μ' => st' = [] ∧ zTJ μ') := by
  obtain ⟨d1, d2, d3, d4, d5, d6, d7⟩ := hd
  have f1 := zT_getp hT zp222_2 (i := (4 * j) + 2) (z := j) (by omega) (by omega) (by omega)
  have f2 := zT_getp hT zp222_3 (i := (4 * j) + 3) (z := j) (by omega) (by omega) (by omega)
  have f3 := zT_getp hT zp222_1 (i := (4 * j) + 1) (z := j) (by omega) (by omega) (by omega)
  refine pm_blk hK zmm311 [] 20 26 [(2, 205), (0, 4 * j), (0, μ 222 ((4 * j) + 2)), (0, μ 222 ((4 * j) + 3))] [(0, μ 222 ((4 * j) + 1))] μ [pm_in ((4 * j) + 2), 0 ≤ (4 * j) + 2 ∧ (4 * j) + 2 < 128, pm_in ((4 * j) + 3), 0 ≤ (4 * j) + 3 ∧ (4 * j) + 3 < 128, pm_in ((4 * j) + 1), 0 ≤ (4 * j) + 1 ∧ (4 * j) + 1 < 128] rfl ⟨pm_in_mk (by omega) (by omega), ⟨by omega, by omega⟩, pm_in_mk (by omega) (by omega), ⟨by omega, by omega⟩, pm_in_mk (by omega) (by omega), ⟨by omega, by omega⟩, trivial⟩ ?_
  refine pm_if hK zmm311 .ne 12 38 rfl rfl (fun h0 => ?_) (fun h0 => ?_)
  · have h0 : μ 222 ((4 * j) + 1) ≠ (0 : Int) := h0
    refine pm_blk hK zmm311 [] 7 47 [(2, 205), (0, 4 * j), (0, μ 222 ((4 * j) + 2)), (0, μ 222 ((4 * j) + 3))] [(0, 1), (0, μ 222 ((4 * j) + 1))] μ [pm_in ((4 * j) + 1), 0 ≤ (4 * j) + 1 ∧ (4 * j) + 1 < 128] rfl ⟨pm_in_mk (by omega) (by omega), ⟨by omega, by omega⟩, trivial⟩ ?_
    refine pm_icmp hK zmm311 .ne 13 60 rfl rfl (fun h1 => ?_) (fun h1 => ?_)
    · have h1 : μ 222 ((4 * j) + 1) ≠ (1 : Int) := h1
      refine pm_blk hK zmm311 [] 7 69 [(2, 205), (0, 4 * j), (0, μ 222 ((4 * j) + 2)), (0, μ 222 ((4 * j) + 3))] [(0, 2), (0, μ 222 ((4 * j) + 1))] μ [pm_in ((4 * j) + 1), 0 ≤ (4 * j) + 1 ∧ (4 * j) + 1 < 128] rfl ⟨pm_in_mk (by omega) (by omega), ⟨by omega, by omega⟩, trivial⟩ ?_
      refine pm_icmp hK zmm311 .ne 30 99 rfl rfl (fun h2 => ?_) (fun h2 => ?_)
      · have h2 : μ 222 ((4 * j) + 1) ≠ (2 : Int) := h2
        refine pm_blk hK zmm311 [] 7 108 [(2, 205), (0, 4 * j), (0, μ 222 ((4 * j) + 2)), (0, μ 222 ((4 * j) + 3))] [(0, 3), (0, μ 222 ((4 * j) + 1))] μ [pm_in ((4 * j) + 1), 0 ≤ (4 * j) + 1 ∧ (4 * j) + 1 < 128] rfl ⟨pm_in_mk (by omega) (by omega), ⟨by omega, by omega⟩, trivial⟩ ?_
        refine pm_icmp hK zmm311 .ne 14 122 rfl rfl (fun h3 => ?_) (fun h3 => ?_)
        · have h3 : μ 222 ((4 * j) + 1) ≠ (3 : Int) := h3
          exact pm_vret rfl rfl ⟨rfl, hT⟩
        · have h3 : μ 222 ((4 * j) + 1) = (3 : Int) := h3
          have f4 := zT_get hT zs206_4 (i := 4 + (μ 222 ((4 * j) + 2))) (by omega) (by omega)
          refine pm_blk hK zmm311 [] 6 119 [(2, 205), (0, 4 * j), (0, μ 222 ((4 * j) + 2)), (0, μ 222 ((4 * j) + 3))] [(0, μ 206 (4 + (μ 222 ((4 * j) + 2))))] μ [pm_in (4 + (μ 222 ((4 * j) + 2))), 0 ≤ 4 + (μ 222 ((4 * j) + 2)) ∧ 4 + (μ 222 ((4 * j) + 2)) < 160] rfl ⟨pm_in_mk (by omega) (by omega), ⟨by omega, by omega⟩, trivial⟩ ?_
          refine pm_if hK zmm311 .ne 4 123 rfl rfl (fun h4 => ?_) (fun h4 => ?_)
          · have h4 : μ 206 (4 + (μ 222 ((4 * j) + 2))) ≠ (0 : Int) := h4
            refine pm_blk hK zmm311 [] 3 126 [(2, 205), (0, 4 * j), (0, μ 222 ((4 * j) + 2)), (0, μ 222 ((4 * j) + 3))] [(0, μ 222 ((4 * j) + 2)), (0, μ 222 ((4 * j) + 3)), (2, 205)] μ [] rfl trivial ?_
            refine pm_call hK zmm311 (349, 0, 309, 2) zM309 (0, 0) [(2, 205), (0, μ 222 ((4 * j) + 3)), (0, μ 222 ((4 * j) + 2))] [] rfl rfl rfl rfl ⟨by omega, by rw [zn309]; omega⟩ (zh_hasThing hK hT ⟨by omega, by omega⟩ ⟨by omega, by omega⟩ (by omega) hb206 ⟨by omega, by omega⟩) (fun st1 μc1 hp1 => ?_)
            obtain ⟨rfl, hTc1⟩ := hp1
            refine pm_blk hK zmm311 [] 4 133 [(2, 205), (0, 4 * j), (0, μ 222 ((4 * j) + 2)), (0, μ 222 ((4 * j) + 3))] [(0, μ 222 ((4 * j) + 2)), (0, μ 222 ((4 * j) + 3)), (0, 1), (2, 205)] μc1 [] rfl trivial ?_
            refine pm_call hK zmm311 (352, 0, 310, 3) zM310 (0, 0) [(2, 205), (0, 1), (0, μ 222 ((4 * j) + 3)), (0, μ 222 ((4 * j) + 2))] [] rfl rfl rfl rfl ⟨by omega, by rw [zn310]; omega⟩ (zh_notes hK hTc1 ⟨by omega, by omega⟩ ⟨by omega, by omega⟩ (pm_in_mk (by omega) (by omega)) hb206 hb210 ⟨by omega, by omega⟩) (fun st2 μc2 hp2 => ?_)
            obtain ⟨rfl, hTc2⟩ := hp2
            exact pm_vret rfl rfl ⟨rfl, hTc2⟩
          · have h4 : μ 206 (4 + (μ 222 ((4 * j) + 2))) = (0 : Int) := h4
            exact pm_vret rfl rfl ⟨rfl, hT⟩
      · have h2 : μ 222 ((4 * j) + 1) = (2 : Int) := h2
        have f5 := zT_get hT zs206_88 (i := 88 + (μ 222 ((4 * j) + 2))) (by omega) (by omega)
        refine pm_blk hK zmm311 [] 15 95 [(2, 205), (0, 4 * j), (0, μ 222 ((4 * j) + 2)), (0, μ 222 ((4 * j) + 3))] [(0, (μ 206 (88 + (μ 222 ((4 * j) + 2)))) + (μ 222 ((4 * j) + 3))), (0, 9999), (2, 205), (0, 88 + (μ 222 ((4 * j) + 2))), (2, 206)] μ [pm_in (88 + (μ 222 ((4 * j) + 2))), pm_in (88 + (μ 222 ((4 * j) + 2))), 0 ≤ 88 + (μ 222 ((4 * j) + 2)) ∧ 88 + (μ 222 ((4 * j) + 2)) < 160, pm_in ((μ 206 (88 + (μ 222 ((4 * j) + 2)))) + (μ 222 ((4 * j) + 3)))] rfl ⟨pm_in_mk (by omega) (by omega), pm_in_mk (by omega) (by omega), ⟨by omega, by omega⟩, pm_in_mk (by omega) (by omega), trivial⟩ ?_
        refine pm_call hK zmm311 (377, 0, 157, 2) zM157 (0, 0) [(2, 205), (0, 9999), (0, (μ 206 (88 + (μ 222 ((4 * j) + 2)))) + (μ 222 ((4 * j) + 3)))] [(0, 88 + (μ 222 ((4 * j) + 2))), (2, 206)] rfl rfl rfl rfl ⟨by omega, by rw [zn157]; omega⟩ (zh_lesser hK ⟨by omega, by omega⟩) (fun st3 μc3 hp3 => ?_)
        obtain ⟨rfl, rfl⟩ := hp3
        refine pm_blk hK zmm311 [] 1 99 [(2, 205), (0, 4 * j), (0, μ 222 ((4 * j) + 2)), (0, μ 222 ((4 * j) + 3))] [] (pm_up μ 206 (88 + (μ 222 ((4 * j) + 2))) (min 9999 ((μ 206 (88 + (μ 222 ((4 * j) + 2)))) + (μ 222 ((4 * j) + 3))))) [sx_bit Wm 206 = true, 0 ≤ 88 + (μ 222 ((4 * j) + 2)) ∧ 88 + (μ 222 ((4 * j) + 2)) < 160] rfl ⟨hb206, ⟨by omega, by omega⟩, trivial⟩ ?_
        obtain ⟨μ1, eμ1⟩ : ∃ μ', μ' = pm_up μ 206 (88 + (μ 222 ((4 * j) + 2))) (min 9999 ((μ 206 (88 + (μ 222 ((4 * j) + 2)))) + (μ 222 ((4 * j) + 3)))) := ⟨_, rfl⟩
        rw [← eμ1]
        have hTμ1 : zTJ μ1 := by rw [eμ1]; exact zT_up hT zs206_88 rfl (i := 88 + (μ 222 ((4 * j) + 2))) (by omega) (by omega) (by omega) (by omega)
        have g6 : μ1 222 ((4 * j) + 1) = μ 222 ((4 * j) + 1) := by rw [eμ1, pm_up_off (by decide)]
        have f7 := zT_getp hTμ1 zp222_1 (i := (4 * j) + 1) (z := j) (by omega) (by omega) (by omega)
        refine pm_blk hK zmm311 [] 7 108 [(2, 205), (0, 4 * j), (0, μ 222 ((4 * j) + 2)), (0, μ 222 ((4 * j) + 3))] [(0, 3), (0, μ1 222 ((4 * j) + 1))] μ1 [pm_in ((4 * j) + 1), 0 ≤ (4 * j) + 1 ∧ (4 * j) + 1 < 128] rfl ⟨pm_in_mk (by omega) (by omega), ⟨by omega, by omega⟩, trivial⟩ ?_
        refine pm_icmp hK zmm311 .ne 14 122 rfl rfl (fun h5 => ?_) (fun h5 => ?_)
        · have h5 : μ1 222 ((4 * j) + 1) ≠ (3 : Int) := h5
          exact pm_vret rfl rfl ⟨rfl, hTμ1⟩
        · have h5 : μ1 222 ((4 * j) + 1) = (3 : Int) := h5
          have f8 := zT_get hTμ1 zs206_4 (i := 4 + (μ 222 ((4 * j) + 2))) (by omega) (by omega)
          refine pm_blk hK zmm311 [] 6 119 [(2, 205), (0, 4 * j), (0, μ 222 ((4 * j) + 2)), (0, μ 222 ((4 * j) + 3))] [(0, μ1 206 (4 + (μ 222 ((4 * j) + 2))))] μ1 [pm_in (4 + (μ 222 ((4 * j) + 2))), 0 ≤ 4 + (μ 222 ((4 * j) + 2)) ∧ 4 + (μ 222 ((4 * j) + 2)) < 160] rfl ⟨pm_in_mk (by omega) (by omega), ⟨by omega, by omega⟩, trivial⟩ ?_
          refine pm_if hK zmm311 .ne 4 123 rfl rfl (fun h6 => ?_) (fun h6 => ?_)
          · have h6 : μ1 206 (4 + (μ 222 ((4 * j) + 2))) ≠ (0 : Int) := h6
            refine pm_blk hK zmm311 [] 3 126 [(2, 205), (0, 4 * j), (0, μ 222 ((4 * j) + 2)), (0, μ 222 ((4 * j) + 3))] [(0, μ 222 ((4 * j) + 2)), (0, μ 222 ((4 * j) + 3)), (2, 205)] μ1 [] rfl trivial ?_
            refine pm_call hK zmm311 (349, 0, 309, 2) zM309 (0, 0) [(2, 205), (0, μ 222 ((4 * j) + 3)), (0, μ 222 ((4 * j) + 2))] [] rfl rfl rfl rfl ⟨by omega, by rw [zn309]; omega⟩ (zh_hasThing hK hTμ1 ⟨by omega, by omega⟩ ⟨by omega, by omega⟩ (by omega) hb206 ⟨by omega, by omega⟩) (fun st4 μc4 hp4 => ?_)
            obtain ⟨rfl, hTc4⟩ := hp4
            refine pm_blk hK zmm311 [] 4 133 [(2, 205), (0, 4 * j), (0, μ 222 ((4 * j) + 2)), (0, μ 222 ((4 * j) + 3))] [(0, μ 222 ((4 * j) + 2)), (0, μ 222 ((4 * j) + 3)), (0, 1), (2, 205)] μc4 [] rfl trivial ?_
            refine pm_call hK zmm311 (352, 0, 310, 3) zM310 (0, 0) [(2, 205), (0, 1), (0, μ 222 ((4 * j) + 3)), (0, μ 222 ((4 * j) + 2))] [] rfl rfl rfl rfl ⟨by omega, by rw [zn310]; omega⟩ (zh_notes hK hTc4 ⟨by omega, by omega⟩ ⟨by omega, by omega⟩ (pm_in_mk (by omega) (by omega)) hb206 hb210 ⟨by omega, by omega⟩) (fun st5 μc5 hp5 => ?_)
            obtain ⟨rfl, hTc5⟩ := hp5
            exact pm_vret rfl rfl ⟨rfl, hTc5⟩
          · have h6 : μ1 206 (4 + (μ 222 ((4 * j) + 2))) = (0 : Int) := h6
            exact pm_vret rfl rfl ⟨rfl, hTμ1⟩
    · have h1 : μ 222 ((4 * j) + 1) = (1 : Int) := h1
      refine pm_blk hK zmm311 [] 7 60 [(2, 205), (0, 4 * j), (0, μ 222 ((4 * j) + 2)), (0, μ 222 ((4 * j) + 3))] [] (pm_up μ 206 (16 + (μ 222 ((4 * j) + 2))) (μ 222 ((4 * j) + 3))) [pm_in (16 + (μ 222 ((4 * j) + 2))), sx_bit Wm 206 = true, 0 ≤ 16 + (μ 222 ((4 * j) + 2)) ∧ 16 + (μ 222 ((4 * j) + 2)) < 160] rfl ⟨pm_in_mk (by omega) (by omega), hb206, ⟨by omega, by omega⟩, trivial⟩ ?_
      obtain ⟨μ2, eμ2⟩ : ∃ μ', μ' = pm_up μ 206 (16 + (μ 222 ((4 * j) + 2))) (μ 222 ((4 * j) + 3)) := ⟨_, rfl⟩
      rw [← eμ2]
      have hTμ2 : zTJ μ2 := by rw [eμ2]; exact zT_up hT zs206_4 rfl (i := 16 + (μ 222 ((4 * j) + 2))) (by omega) (by omega) (by omega) (by omega)
      have g9 : μ2 222 ((4 * j) + 1) = μ 222 ((4 * j) + 1) := by rw [eμ2, pm_up_off (by decide)]
      have f10 := zT_getp hTμ2 zp222_1 (i := (4 * j) + 1) (z := j) (by omega) (by omega) (by omega)
      refine pm_blk hK zmm311 [] 7 69 [(2, 205), (0, 4 * j), (0, μ 222 ((4 * j) + 2)), (0, μ 222 ((4 * j) + 3))] [(0, 2), (0, μ2 222 ((4 * j) + 1))] μ2 [pm_in ((4 * j) + 1), 0 ≤ (4 * j) + 1 ∧ (4 * j) + 1 < 128] rfl ⟨pm_in_mk (by omega) (by omega), ⟨by omega, by omega⟩, trivial⟩ ?_
      refine pm_icmp hK zmm311 .ne 30 99 rfl rfl (fun h7 => ?_) (fun h7 => ?_)
      · have h7 : μ2 222 ((4 * j) + 1) ≠ (2 : Int) := h7
        refine pm_blk hK zmm311 [] 7 108 [(2, 205), (0, 4 * j), (0, μ 222 ((4 * j) + 2)), (0, μ 222 ((4 * j) + 3))] [(0, 3), (0, μ2 222 ((4 * j) + 1))] μ2 [pm_in ((4 * j) + 1), 0 ≤ (4 * j) + 1 ∧ (4 * j) + 1 < 128] rfl ⟨pm_in_mk (by omega) (by omega), ⟨by omega, by omega⟩, trivial⟩ ?_
        refine pm_icmp hK zmm311 .ne 14 122 rfl rfl (fun h8 => ?_) (fun h8 => ?_)
        · have h8 : μ2 222 ((4 * j) + 1) ≠ (3 : Int) := h8
          exact pm_vret rfl rfl ⟨rfl, hTμ2⟩
        · have h8 : μ2 222 ((4 * j) + 1) = (3 : Int) := h8
          have f11 := zT_get hTμ2 zs206_4 (i := 4 + (μ 222 ((4 * j) + 2))) (by omega) (by omega)
          refine pm_blk hK zmm311 [] 6 119 [(2, 205), (0, 4 * j), (0, μ 222 ((4 * j) + 2)), (0, μ 222 ((4 * j) + 3))] [(0, μ2 206 (4 + (μ 222 ((4 * j) + 2))))] μ2 [pm_in (4 + (μ 222 ((4 * j) + 2))), 0 ≤ 4 + (μ 222 ((4 * j) + 2)) ∧ 4 + (μ 222 ((4 * j) + 2)) < 160] rfl ⟨pm_in_mk (by omega) (by omega), ⟨by omega, by omega⟩, trivial⟩ ?_
          refine pm_if hK zmm311 .ne 4 123 rfl rfl (fun h9 => ?_) (fun h9 => ?_)
          · have h9 : μ2 206 (4 + (μ 222 ((4 * j) + 2))) ≠ (0 : Int) := h9
            refine pm_blk hK zmm311 [] 3 126 [(2, 205), (0, 4 * j), (0, μ 222 ((4 * j) + 2)), (0, μ 222 ((4 * j) + 3))] [(0, μ 222 ((4 * j) + 2)), (0, μ 222 ((4 * j) + 3)), (2, 205)] μ2 [] rfl trivial ?_
            refine pm_call hK zmm311 (349, 0, 309, 2) zM309 (0, 0) [(2, 205), (0, μ 222 ((4 * j) + 3)), (0, μ 222 ((4 * j) + 2))] [] rfl rfl rfl rfl ⟨by omega, by rw [zn309]; omega⟩ (zh_hasThing hK hTμ2 ⟨by omega, by omega⟩ ⟨by omega, by omega⟩ (by omega) hb206 ⟨by omega, by omega⟩) (fun st6 μc6 hp6 => ?_)
            obtain ⟨rfl, hTc6⟩ := hp6
            refine pm_blk hK zmm311 [] 4 133 [(2, 205), (0, 4 * j), (0, μ 222 ((4 * j) + 2)), (0, μ 222 ((4 * j) + 3))] [(0, μ 222 ((4 * j) + 2)), (0, μ 222 ((4 * j) + 3)), (0, 1), (2, 205)] μc6 [] rfl trivial ?_
            refine pm_call hK zmm311 (352, 0, 310, 3) zM310 (0, 0) [(2, 205), (0, 1), (0, μ 222 ((4 * j) + 3)), (0, μ 222 ((4 * j) + 2))] [] rfl rfl rfl rfl ⟨by omega, by rw [zn310]; omega⟩ (zh_notes hK hTc6 ⟨by omega, by omega⟩ ⟨by omega, by omega⟩ (pm_in_mk (by omega) (by omega)) hb206 hb210 ⟨by omega, by omega⟩) (fun st7 μc7 hp7 => ?_)
            obtain ⟨rfl, hTc7⟩ := hp7
            exact pm_vret rfl rfl ⟨rfl, hTc7⟩
          · have h9 : μ2 206 (4 + (μ 222 ((4 * j) + 2))) = (0 : Int) := h9
            exact pm_vret rfl rfl ⟨rfl, hTμ2⟩
      · have h7 : μ2 222 ((4 * j) + 1) = (2 : Int) := h7
        have f12 := zT_get hTμ2 zs206_88 (i := 88 + (μ 222 ((4 * j) + 2))) (by omega) (by omega)
        refine pm_blk hK zmm311 [] 15 95 [(2, 205), (0, 4 * j), (0, μ 222 ((4 * j) + 2)), (0, μ 222 ((4 * j) + 3))] [(0, (μ2 206 (88 + (μ 222 ((4 * j) + 2)))) + (μ 222 ((4 * j) + 3))), (0, 9999), (2, 205), (0, 88 + (μ 222 ((4 * j) + 2))), (2, 206)] μ2 [pm_in (88 + (μ 222 ((4 * j) + 2))), pm_in (88 + (μ 222 ((4 * j) + 2))), 0 ≤ 88 + (μ 222 ((4 * j) + 2)) ∧ 88 + (μ 222 ((4 * j) + 2)) < 160, pm_in ((μ2 206 (88 + (μ 222 ((4 * j) + 2)))) + (μ 222 ((4 * j) + 3)))] rfl ⟨pm_in_mk (by omega) (by omega), pm_in_mk (by omega) (by omega), ⟨by omega, by omega⟩, pm_in_mk (by omega) (by omega), trivial⟩ ?_
        refine pm_call hK zmm311 (377, 0, 157, 2) zM157 (0, 0) [(2, 205), (0, 9999), (0, (μ2 206 (88 + (μ 222 ((4 * j) + 2)))) + (μ 222 ((4 * j) + 3)))] [(0, 88 + (μ 222 ((4 * j) + 2))), (2, 206)] rfl rfl rfl rfl ⟨by omega, by rw [zn157]; omega⟩ (zh_lesser hK ⟨by omega, by omega⟩) (fun st8 μc8 hp8 => ?_)
        obtain ⟨rfl, rfl⟩ := hp8
        refine pm_blk hK zmm311 [] 1 99 [(2, 205), (0, 4 * j), (0, μ 222 ((4 * j) + 2)), (0, μ 222 ((4 * j) + 3))] [] (pm_up μ2 206 (88 + (μ 222 ((4 * j) + 2))) (min 9999 ((μ2 206 (88 + (μ 222 ((4 * j) + 2)))) + (μ 222 ((4 * j) + 3))))) [sx_bit Wm 206 = true, 0 ≤ 88 + (μ 222 ((4 * j) + 2)) ∧ 88 + (μ 222 ((4 * j) + 2)) < 160] rfl ⟨hb206, ⟨by omega, by omega⟩, trivial⟩ ?_
        obtain ⟨μ3, eμ3⟩ : ∃ μ', μ' = pm_up μ2 206 (88 + (μ 222 ((4 * j) + 2))) (min 9999 ((μ2 206 (88 + (μ 222 ((4 * j) + 2)))) + (μ 222 ((4 * j) + 3)))) := ⟨_, rfl⟩
        rw [← eμ3]
        have hTμ3 : zTJ μ3 := by rw [eμ3]; exact zT_up hTμ2 zs206_88 rfl (i := 88 + (μ 222 ((4 * j) + 2))) (by omega) (by omega) (by omega) (by omega)
        have g13 : μ3 222 ((4 * j) + 1) = μ 222 ((4 * j) + 1) := by rw [eμ3, pm_up_off (by decide), eμ2, pm_up_off (by decide)]
        have f14 := zT_getp hTμ3 zp222_1 (i := (4 * j) + 1) (z := j) (by omega) (by omega) (by omega)
        refine pm_blk hK zmm311 [] 7 108 [(2, 205), (0, 4 * j), (0, μ 222 ((4 * j) + 2)), (0, μ 222 ((4 * j) + 3))] [(0, 3), (0, μ3 222 ((4 * j) + 1))] μ3 [pm_in ((4 * j) + 1), 0 ≤ (4 * j) + 1 ∧ (4 * j) + 1 < 128] rfl ⟨pm_in_mk (by omega) (by omega), ⟨by omega, by omega⟩, trivial⟩ ?_
        refine pm_icmp hK zmm311 .ne 14 122 rfl rfl (fun h10 => ?_) (fun h10 => ?_)
        · have h10 : μ3 222 ((4 * j) + 1) ≠ (3 : Int) := h10
          exact pm_vret rfl rfl ⟨rfl, hTμ3⟩
        · have h10 : μ3 222 ((4 * j) + 1) = (3 : Int) := h10
          have f15 := zT_get hTμ3 zs206_4 (i := 4 + (μ 222 ((4 * j) + 2))) (by omega) (by omega)
          refine pm_blk hK zmm311 [] 6 119 [(2, 205), (0, 4 * j), (0, μ 222 ((4 * j) + 2)), (0, μ 222 ((4 * j) + 3))] [(0, μ3 206 (4 + (μ 222 ((4 * j) + 2))))] μ3 [pm_in (4 + (μ 222 ((4 * j) + 2))), 0 ≤ 4 + (μ 222 ((4 * j) + 2)) ∧ 4 + (μ 222 ((4 * j) + 2)) < 160] rfl ⟨pm_in_mk (by omega) (by omega), ⟨by omega, by omega⟩, trivial⟩ ?_
          refine pm_if hK zmm311 .ne 4 123 rfl rfl (fun h11 => ?_) (fun h11 => ?_)
          · have h11 : μ3 206 (4 + (μ 222 ((4 * j) + 2))) ≠ (0 : Int) := h11
            refine pm_blk hK zmm311 [] 3 126 [(2, 205), (0, 4 * j), (0, μ 222 ((4 * j) + 2)), (0, μ 222 ((4 * j) + 3))] [(0, μ 222 ((4 * j) + 2)), (0, μ 222 ((4 * j) + 3)), (2, 205)] μ3 [] rfl trivial ?_
            refine pm_call hK zmm311 (349, 0, 309, 2) zM309 (0, 0) [(2, 205), (0, μ 222 ((4 * j) + 3)), (0, μ 222 ((4 * j) + 2))] [] rfl rfl rfl rfl ⟨by omega, by rw [zn309]; omega⟩ (zh_hasThing hK hTμ3 ⟨by omega, by omega⟩ ⟨by omega, by omega⟩ (by omega) hb206 ⟨by omega, by omega⟩) (fun st9 μc9 hp9 => ?_)
            obtain ⟨rfl, hTc9⟩ := hp9
            refine pm_blk hK zmm311 [] 4 133 [(2, 205), (0, 4 * j), (0, μ 222 ((4 * j) + 2)), (0, μ 222 ((4 * j) + 3))] [(0, μ 222 ((4 * j) + 2)), (0, μ 222 ((4 * j) + 3)), (0, 1), (2, 205)] μc9 [] rfl trivial ?_
            refine pm_call hK zmm311 (352, 0, 310, 3) zM310 (0, 0) [(2, 205), (0, 1), (0, μ 222 ((4 * j) + 3)), (0, μ 222 ((4 * j) + 2))] [] rfl rfl rfl rfl ⟨by omega, by rw [zn310]; omega⟩ (zh_notes hK hTc9 ⟨by omega, by omega⟩ ⟨by omega, by omega⟩ (pm_in_mk (by omega) (by omega)) hb206 hb210 ⟨by omega, by omega⟩) (fun st10 μc10 hp10 => ?_)
            obtain ⟨rfl, hTc10⟩ := hp10
            exact pm_vret rfl rfl ⟨rfl, hTc10⟩
          · have h11 : μ3 206 (4 + (μ 222 ((4 * j) + 2))) = (0 : Int) := h11
            exact pm_vret rfl rfl ⟨rfl, hTμ3⟩
  · have h0 : μ 222 ((4 * j) + 1) = (0 : Int) := h0
    refine pm_blk hK zmm311 [] 7 38 [(2, 205), (0, 4 * j), (0, μ 222 ((4 * j) + 2)), (0, μ 222 ((4 * j) + 3))] [] (pm_up μ 206 (4 + (μ 222 ((4 * j) + 2))) (μ 222 ((4 * j) + 3))) [pm_in (4 + (μ 222 ((4 * j) + 2))), sx_bit Wm 206 = true, 0 ≤ 4 + (μ 222 ((4 * j) + 2)) ∧ 4 + (μ 222 ((4 * j) + 2)) < 160] rfl ⟨pm_in_mk (by omega) (by omega), hb206, ⟨by omega, by omega⟩, trivial⟩ ?_
    obtain ⟨μ4, eμ4⟩ : ∃ μ', μ' = pm_up μ 206 (4 + (μ 222 ((4 * j) + 2))) (μ 222 ((4 * j) + 3)) := ⟨_, rfl⟩
    rw [← eμ4]
    have hTμ4 : zTJ μ4 := by rw [eμ4]; exact zT_up hT zs206_4 rfl (i := 4 + (μ 222 ((4 * j) + 2))) (by omega) (by omega) (by omega) (by omega)
    have g16 : μ4 222 ((4 * j) + 1) = μ 222 ((4 * j) + 1) := by rw [eμ4, pm_up_off (by decide)]
    have f17 := zT_getp hTμ4 zp222_1 (i := (4 * j) + 1) (z := j) (by omega) (by omega) (by omega)
    refine pm_blk hK zmm311 [] 7 47 [(2, 205), (0, 4 * j), (0, μ 222 ((4 * j) + 2)), (0, μ 222 ((4 * j) + 3))] [(0, 1), (0, μ4 222 ((4 * j) + 1))] μ4 [pm_in ((4 * j) + 1), 0 ≤ (4 * j) + 1 ∧ (4 * j) + 1 < 128] rfl ⟨pm_in_mk (by omega) (by omega), ⟨by omega, by omega⟩, trivial⟩ ?_
    refine pm_icmp hK zmm311 .ne 13 60 rfl rfl (fun h12 => ?_) (fun h12 => ?_)
    · have h12 : μ4 222 ((4 * j) + 1) ≠ (1 : Int) := h12
      refine pm_blk hK zmm311 [] 7 69 [(2, 205), (0, 4 * j), (0, μ 222 ((4 * j) + 2)), (0, μ 222 ((4 * j) + 3))] [(0, 2), (0, μ4 222 ((4 * j) + 1))] μ4 [pm_in ((4 * j) + 1), 0 ≤ (4 * j) + 1 ∧ (4 * j) + 1 < 128] rfl ⟨pm_in_mk (by omega) (by omega), ⟨by omega, by omega⟩, trivial⟩ ?_
      refine pm_icmp hK zmm311 .ne 30 99 rfl rfl (fun h13 => ?_) (fun h13 => ?_)
      · have h13 : μ4 222 ((4 * j) + 1) ≠ (2 : Int) := h13
        refine pm_blk hK zmm311 [] 7 108 [(2, 205), (0, 4 * j), (0, μ 222 ((4 * j) + 2)), (0, μ 222 ((4 * j) + 3))] [(0, 3), (0, μ4 222 ((4 * j) + 1))] μ4 [pm_in ((4 * j) + 1), 0 ≤ (4 * j) + 1 ∧ (4 * j) + 1 < 128] rfl ⟨pm_in_mk (by omega) (by omega), ⟨by omega, by omega⟩, trivial⟩ ?_
        refine pm_icmp hK zmm311 .ne 14 122 rfl rfl (fun h14 => ?_) (fun h14 => ?_)
        · have h14 : μ4 222 ((4 * j) + 1) ≠ (3 : Int) := h14
          exact pm_vret rfl rfl ⟨rfl, hTμ4⟩
        · have h14 : μ4 222 ((4 * j) + 1) = (3 : Int) := h14
          have f18 := zT_get hTμ4 zs206_4 (i := 4 + (μ 222 ((4 * j) + 2))) (by omega) (by omega)
          refine pm_blk hK zmm311 [] 6 119 [(2, 205), (0, 4 * j), (0, μ 222 ((4 * j) + 2)), (0, μ 222 ((4 * j) + 3))] [(0, μ4 206 (4 + (μ 222 ((4 * j) + 2))))] μ4 [pm_in (4 + (μ 222 ((4 * j) + 2))), 0 ≤ 4 + (μ 222 ((4 * j) + 2)) ∧ 4 + (μ 222 ((4 * j) + 2)) < 160] rfl ⟨pm_in_mk (by omega) (by omega), ⟨by omega, by omega⟩, trivial⟩ ?_
          refine pm_if hK zmm311 .ne 4 123 rfl rfl (fun h15 => ?_) (fun h15 => ?_)
          · have h15 : μ4 206 (4 + (μ 222 ((4 * j) + 2))) ≠ (0 : Int) := h15
            refine pm_blk hK zmm311 [] 3 126 [(2, 205), (0, 4 * j), (0, μ 222 ((4 * j) + 2)), (0, μ 222 ((4 * j) + 3))] [(0, μ 222 ((4 * j) + 2)), (0, μ 222 ((4 * j) + 3)), (2, 205)] μ4 [] rfl trivial ?_
            refine pm_call hK zmm311 (349, 0, 309, 2) zM309 (0, 0) [(2, 205), (0, μ 222 ((4 * j) + 3)), (0, μ 222 ((4 * j) + 2))] [] rfl rfl rfl rfl ⟨by omega, by rw [zn309]; omega⟩ (zh_hasThing hK hTμ4 ⟨by omega, by omega⟩ ⟨by omega, by omega⟩ (by omega) hb206 ⟨by omega, by omega⟩) (fun st11 μc11 hp11 => ?_)
            obtain ⟨rfl, hTc11⟩ := hp11
            refine pm_blk hK zmm311 [] 4 133 [(2, 205), (0, 4 * j), (0, μ 222 ((4 * j) + 2)), (0, μ 222 ((4 * j) + 3))] [(0, μ 222 ((4 * j) + 2)), (0, μ 222 ((4 * j) + 3)), (0, 1), (2, 205)] μc11 [] rfl trivial ?_
            refine pm_call hK zmm311 (352, 0, 310, 3) zM310 (0, 0) [(2, 205), (0, 1), (0, μ 222 ((4 * j) + 3)), (0, μ 222 ((4 * j) + 2))] [] rfl rfl rfl rfl ⟨by omega, by rw [zn310]; omega⟩ (zh_notes hK hTc11 ⟨by omega, by omega⟩ ⟨by omega, by omega⟩ (pm_in_mk (by omega) (by omega)) hb206 hb210 ⟨by omega, by omega⟩) (fun st12 μc12 hp12 => ?_)
            obtain ⟨rfl, hTc12⟩ := hp12
            exact pm_vret rfl rfl ⟨rfl, hTc12⟩
          · have h15 : μ4 206 (4 + (μ 222 ((4 * j) + 2))) = (0 : Int) := h15
            exact pm_vret rfl rfl ⟨rfl, hTμ4⟩
      · have h13 : μ4 222 ((4 * j) + 1) = (2 : Int) := h13
        have f19 := zT_get hTμ4 zs206_88 (i := 88 + (μ 222 ((4 * j) + 2))) (by omega) (by omega)
        refine pm_blk hK zmm311 [] 15 95 [(2, 205), (0, 4 * j), (0, μ 222 ((4 * j) + 2)), (0, μ 222 ((4 * j) + 3))] [(0, (μ4 206 (88 + (μ 222 ((4 * j) + 2)))) + (μ 222 ((4 * j) + 3))), (0, 9999), (2, 205), (0, 88 + (μ 222 ((4 * j) + 2))), (2, 206)] μ4 [pm_in (88 + (μ 222 ((4 * j) + 2))), pm_in (88 + (μ 222 ((4 * j) + 2))), 0 ≤ 88 + (μ 222 ((4 * j) + 2)) ∧ 88 + (μ 222 ((4 * j) + 2)) < 160, pm_in ((μ4 206 (88 + (μ 222 ((4 * j) + 2)))) + (μ 222 ((4 * j) + 3)))] rfl ⟨pm_in_mk (by omega) (by omega), pm_in_mk (by omega) (by omega), ⟨by omega, by omega⟩, pm_in_mk (by omega) (by omega), trivial⟩ ?_
        refine pm_call hK zmm311 (377, 0, 157, 2) zM157 (0, 0) [(2, 205), (0, 9999), (0, (μ4 206 (88 + (μ 222 ((4 * j) + 2)))) + (μ 222 ((4 * j) + 3)))] [(0, 88 + (μ 222 ((4 * j) + 2))), (2, 206)] rfl rfl rfl rfl ⟨by omega, by rw [zn157]; omega⟩ (zh_lesser hK ⟨by omega, by omega⟩) (fun st13 μc13 hp13 => ?_)
        obtain ⟨rfl, rfl⟩ := hp13
        refine pm_blk hK zmm311 [] 1 99 [(2, 205), (0, 4 * j), (0, μ 222 ((4 * j) + 2)), (0, μ 222 ((4 * j) + 3))] [] (pm_up μ4 206 (88 + (μ 222 ((4 * j) + 2))) (min 9999 ((μ4 206 (88 + (μ 222 ((4 * j) + 2)))) + (μ 222 ((4 * j) + 3))))) [sx_bit Wm 206 = true, 0 ≤ 88 + (μ 222 ((4 * j) + 2)) ∧ 88 + (μ 222 ((4 * j) + 2)) < 160] rfl ⟨hb206, ⟨by omega, by omega⟩, trivial⟩ ?_
        obtain ⟨μ5, eμ5⟩ : ∃ μ', μ' = pm_up μ4 206 (88 + (μ 222 ((4 * j) + 2))) (min 9999 ((μ4 206 (88 + (μ 222 ((4 * j) + 2)))) + (μ 222 ((4 * j) + 3)))) := ⟨_, rfl⟩
        rw [← eμ5]
        have hTμ5 : zTJ μ5 := by rw [eμ5]; exact zT_up hTμ4 zs206_88 rfl (i := 88 + (μ 222 ((4 * j) + 2))) (by omega) (by omega) (by omega) (by omega)
        have g20 : μ5 222 ((4 * j) + 1) = μ 222 ((4 * j) + 1) := by rw [eμ5, pm_up_off (by decide), eμ4, pm_up_off (by decide)]
        have f21 := zT_getp hTμ5 zp222_1 (i := (4 * j) + 1) (z := j) (by omega) (by omega) (by omega)
        refine pm_blk hK zmm311 [] 7 108 [(2, 205), (0, 4 * j), (0, μ 222 ((4 * j) + 2)), (0, μ 222 ((4 * j) + 3))] [(0, 3), (0, μ5 222 ((4 * j) + 1))] μ5 [pm_in ((4 * j) + 1), 0 ≤ (4 * j) + 1 ∧ (4 * j) + 1 < 128] rfl ⟨pm_in_mk (by omega) (by omega), ⟨by omega, by omega⟩, trivial⟩ ?_
        refine pm_icmp hK zmm311 .ne 14 122 rfl rfl (fun h16 => ?_) (fun h16 => ?_)
        · have h16 : μ5 222 ((4 * j) + 1) ≠ (3 : Int) := h16
          exact pm_vret rfl rfl ⟨rfl, hTμ5⟩
        · have h16 : μ5 222 ((4 * j) + 1) = (3 : Int) := h16
          have f22 := zT_get hTμ5 zs206_4 (i := 4 + (μ 222 ((4 * j) + 2))) (by omega) (by omega)
          refine pm_blk hK zmm311 [] 6 119 [(2, 205), (0, 4 * j), (0, μ 222 ((4 * j) + 2)), (0, μ 222 ((4 * j) + 3))] [(0, μ5 206 (4 + (μ 222 ((4 * j) + 2))))] μ5 [pm_in (4 + (μ 222 ((4 * j) + 2))), 0 ≤ 4 + (μ 222 ((4 * j) + 2)) ∧ 4 + (μ 222 ((4 * j) + 2)) < 160] rfl ⟨pm_in_mk (by omega) (by omega), ⟨by omega, by omega⟩, trivial⟩ ?_
          refine pm_if hK zmm311 .ne 4 123 rfl rfl (fun h17 => ?_) (fun h17 => ?_)
          · have h17 : μ5 206 (4 + (μ 222 ((4 * j) + 2))) ≠ (0 : Int) := h17
            refine pm_blk hK zmm311 [] 3 126 [(2, 205), (0, 4 * j), (0, μ 222 ((4 * j) + 2)), (0, μ 222 ((4 * j) + 3))] [(0, μ 222 ((4 * j) + 2)), (0, μ 222 ((4 * j) + 3)), (2, 205)] μ5 [] rfl trivial ?_
            refine pm_call hK zmm311 (349, 0, 309, 2) zM309 (0, 0) [(2, 205), (0, μ 222 ((4 * j) + 3)), (0, μ 222 ((4 * j) + 2))] [] rfl rfl rfl rfl ⟨by omega, by rw [zn309]; omega⟩ (zh_hasThing hK hTμ5 ⟨by omega, by omega⟩ ⟨by omega, by omega⟩ (by omega) hb206 ⟨by omega, by omega⟩) (fun st14 μc14 hp14 => ?_)
            obtain ⟨rfl, hTc14⟩ := hp14
            refine pm_blk hK zmm311 [] 4 133 [(2, 205), (0, 4 * j), (0, μ 222 ((4 * j) + 2)), (0, μ 222 ((4 * j) + 3))] [(0, μ 222 ((4 * j) + 2)), (0, μ 222 ((4 * j) + 3)), (0, 1), (2, 205)] μc14 [] rfl trivial ?_
            refine pm_call hK zmm311 (352, 0, 310, 3) zM310 (0, 0) [(2, 205), (0, 1), (0, μ 222 ((4 * j) + 3)), (0, μ 222 ((4 * j) + 2))] [] rfl rfl rfl rfl ⟨by omega, by rw [zn310]; omega⟩ (zh_notes hK hTc14 ⟨by omega, by omega⟩ ⟨by omega, by omega⟩ (pm_in_mk (by omega) (by omega)) hb206 hb210 ⟨by omega, by omega⟩) (fun st15 μc15 hp15 => ?_)
            obtain ⟨rfl, hTc15⟩ := hp15
            exact pm_vret rfl rfl ⟨rfl, hTc15⟩
          · have h17 : μ5 206 (4 + (μ 222 ((4 * j) + 2))) = (0 : Int) := h17
            exact pm_vret rfl rfl ⟨rfl, hTμ5⟩
    · have h12 : μ4 222 ((4 * j) + 1) = (1 : Int) := h12
      refine pm_blk hK zmm311 [] 7 60 [(2, 205), (0, 4 * j), (0, μ 222 ((4 * j) + 2)), (0, μ 222 ((4 * j) + 3))] [] (pm_up μ4 206 (16 + (μ 222 ((4 * j) + 2))) (μ 222 ((4 * j) + 3))) [pm_in (16 + (μ 222 ((4 * j) + 2))), sx_bit Wm 206 = true, 0 ≤ 16 + (μ 222 ((4 * j) + 2)) ∧ 16 + (μ 222 ((4 * j) + 2)) < 160] rfl ⟨pm_in_mk (by omega) (by omega), hb206, ⟨by omega, by omega⟩, trivial⟩ ?_
      obtain ⟨μ6, eμ6⟩ : ∃ μ', μ' = pm_up μ4 206 (16 + (μ 222 ((4 * j) + 2))) (μ 222 ((4 * j) + 3)) := ⟨_, rfl⟩
      rw [← eμ6]
      have hTμ6 : zTJ μ6 := by rw [eμ6]; exact zT_up hTμ4 zs206_4 rfl (i := 16 + (μ 222 ((4 * j) + 2))) (by omega) (by omega) (by omega) (by omega)
      have g23 : μ6 222 ((4 * j) + 1) = μ 222 ((4 * j) + 1) := by rw [eμ6, pm_up_off (by decide), eμ4, pm_up_off (by decide)]
      have f24 := zT_getp hTμ6 zp222_1 (i := (4 * j) + 1) (z := j) (by omega) (by omega) (by omega)
      refine pm_blk hK zmm311 [] 7 69 [(2, 205), (0, 4 * j), (0, μ 222 ((4 * j) + 2)), (0, μ 222 ((4 * j) + 3))] [(0, 2), (0, μ6 222 ((4 * j) + 1))] μ6 [pm_in ((4 * j) + 1), 0 ≤ (4 * j) + 1 ∧ (4 * j) + 1 < 128] rfl ⟨pm_in_mk (by omega) (by omega), ⟨by omega, by omega⟩, trivial⟩ ?_
      refine pm_icmp hK zmm311 .ne 30 99 rfl rfl (fun h18 => ?_) (fun h18 => ?_)
      · have h18 : μ6 222 ((4 * j) + 1) ≠ (2 : Int) := h18
        refine pm_blk hK zmm311 [] 7 108 [(2, 205), (0, 4 * j), (0, μ 222 ((4 * j) + 2)), (0, μ 222 ((4 * j) + 3))] [(0, 3), (0, μ6 222 ((4 * j) + 1))] μ6 [pm_in ((4 * j) + 1), 0 ≤ (4 * j) + 1 ∧ (4 * j) + 1 < 128] rfl ⟨pm_in_mk (by omega) (by omega), ⟨by omega, by omega⟩, trivial⟩ ?_
        refine pm_icmp hK zmm311 .ne 14 122 rfl rfl (fun h19 => ?_) (fun h19 => ?_)
        · have h19 : μ6 222 ((4 * j) + 1) ≠ (3 : Int) := h19
          exact pm_vret rfl rfl ⟨rfl, hTμ6⟩
        · have h19 : μ6 222 ((4 * j) + 1) = (3 : Int) := h19
          have f25 := zT_get hTμ6 zs206_4 (i := 4 + (μ 222 ((4 * j) + 2))) (by omega) (by omega)
          refine pm_blk hK zmm311 [] 6 119 [(2, 205), (0, 4 * j), (0, μ 222 ((4 * j) + 2)), (0, μ 222 ((4 * j) + 3))] [(0, μ6 206 (4 + (μ 222 ((4 * j) + 2))))] μ6 [pm_in (4 + (μ 222 ((4 * j) + 2))), 0 ≤ 4 + (μ 222 ((4 * j) + 2)) ∧ 4 + (μ 222 ((4 * j) + 2)) < 160] rfl ⟨pm_in_mk (by omega) (by omega), ⟨by omega, by omega⟩, trivial⟩ ?_
          refine pm_if hK zmm311 .ne 4 123 rfl rfl (fun h20 => ?_) (fun h20 => ?_)
          · have h20 : μ6 206 (4 + (μ 222 ((4 * j) + 2))) ≠ (0 : Int) := h20
            refine pm_blk hK zmm311 [] 3 126 [(2, 205), (0, 4 * j), (0, μ 222 ((4 * j) + 2)), (0, μ 222 ((4 * j) + 3))] [(0, μ 222 ((4 * j) + 2)), (0, μ 222 ((4 * j) + 3)), (2, 205)] μ6 [] rfl trivial ?_
            refine pm_call hK zmm311 (349, 0, 309, 2) zM309 (0, 0) [(2, 205), (0, μ 222 ((4 * j) + 3)), (0, μ 222 ((4 * j) + 2))] [] rfl rfl rfl rfl ⟨by omega, by rw [zn309]; omega⟩ (zh_hasThing hK hTμ6 ⟨by omega, by omega⟩ ⟨by omega, by omega⟩ (by omega) hb206 ⟨by omega, by omega⟩) (fun st16 μc16 hp16 => ?_)
            obtain ⟨rfl, hTc16⟩ := hp16
            refine pm_blk hK zmm311 [] 4 133 [(2, 205), (0, 4 * j), (0, μ 222 ((4 * j) + 2)), (0, μ 222 ((4 * j) + 3))] [(0, μ 222 ((4 * j) + 2)), (0, μ 222 ((4 * j) + 3)), (0, 1), (2, 205)] μc16 [] rfl trivial ?_
            refine pm_call hK zmm311 (352, 0, 310, 3) zM310 (0, 0) [(2, 205), (0, 1), (0, μ 222 ((4 * j) + 3)), (0, μ 222 ((4 * j) + 2))] [] rfl rfl rfl rfl ⟨by omega, by rw [zn310]; omega⟩ (zh_notes hK hTc16 ⟨by omega, by omega⟩ ⟨by omega, by omega⟩ (pm_in_mk (by omega) (by omega)) hb206 hb210 ⟨by omega, by omega⟩) (fun st17 μc17 hp17 => ?_)
            obtain ⟨rfl, hTc17⟩ := hp17
            exact pm_vret rfl rfl ⟨rfl, hTc17⟩
          · have h20 : μ6 206 (4 + (μ 222 ((4 * j) + 2))) = (0 : Int) := h20
            exact pm_vret rfl rfl ⟨rfl, hTμ6⟩
      · have h18 : μ6 222 ((4 * j) + 1) = (2 : Int) := h18
        have f26 := zT_get hTμ6 zs206_88 (i := 88 + (μ 222 ((4 * j) + 2))) (by omega) (by omega)
        refine pm_blk hK zmm311 [] 15 95 [(2, 205), (0, 4 * j), (0, μ 222 ((4 * j) + 2)), (0, μ 222 ((4 * j) + 3))] [(0, (μ6 206 (88 + (μ 222 ((4 * j) + 2)))) + (μ 222 ((4 * j) + 3))), (0, 9999), (2, 205), (0, 88 + (μ 222 ((4 * j) + 2))), (2, 206)] μ6 [pm_in (88 + (μ 222 ((4 * j) + 2))), pm_in (88 + (μ 222 ((4 * j) + 2))), 0 ≤ 88 + (μ 222 ((4 * j) + 2)) ∧ 88 + (μ 222 ((4 * j) + 2)) < 160, pm_in ((μ6 206 (88 + (μ 222 ((4 * j) + 2)))) + (μ 222 ((4 * j) + 3)))] rfl ⟨pm_in_mk (by omega) (by omega), pm_in_mk (by omega) (by omega), ⟨by omega, by omega⟩, pm_in_mk (by omega) (by omega), trivial⟩ ?_
        refine pm_call hK zmm311 (377, 0, 157, 2) zM157 (0, 0) [(2, 205), (0, 9999), (0, (μ6 206 (88 + (μ 222 ((4 * j) + 2)))) + (μ 222 ((4 * j) + 3)))] [(0, 88 + (μ 222 ((4 * j) + 2))), (2, 206)] rfl rfl rfl rfl ⟨by omega, by rw [zn157]; omega⟩ (zh_lesser hK ⟨by omega, by omega⟩) (fun st18 μc18 hp18 => ?_)
        obtain ⟨rfl, rfl⟩ := hp18
        refine pm_blk hK zmm311 [] 1 99 [(2, 205), (0, 4 * j), (0, μ 222 ((4 * j) + 2)), (0, μ 222 ((4 * j) + 3))] [] (pm_up μ6 206 (88 + (μ 222 ((4 * j) + 2))) (min 9999 ((μ6 206 (88 + (μ 222 ((4 * j) + 2)))) + (μ 222 ((4 * j) + 3))))) [sx_bit Wm 206 = true, 0 ≤ 88 + (μ 222 ((4 * j) + 2)) ∧ 88 + (μ 222 ((4 * j) + 2)) < 160] rfl ⟨hb206, ⟨by omega, by omega⟩, trivial⟩ ?_
        obtain ⟨μ7, eμ7⟩ : ∃ μ', μ' = pm_up μ6 206 (88 + (μ 222 ((4 * j) + 2))) (min 9999 ((μ6 206 (88 + (μ 222 ((4 * j) + 2)))) + (μ 222 ((4 * j) + 3)))) := ⟨_, rfl⟩
        rw [← eμ7]
        have hTμ7 : zTJ μ7 := by rw [eμ7]; exact zT_up hTμ6 zs206_88 rfl (i := 88 + (μ 222 ((4 * j) + 2))) (by omega) (by omega) (by omega) (by omega)
        have g27 : μ7 222 ((4 * j) + 1) = μ 222 ((4 * j) + 1) := by rw [eμ7, pm_up_off (by decide), eμ6, pm_up_off (by decide), eμ4, pm_up_off (by decide)]
        have f28 := zT_getp hTμ7 zp222_1 (i := (4 * j) + 1) (z := j) (by omega) (by omega) (by omega)
        refine pm_blk hK zmm311 [] 7 108 [(2, 205), (0, 4 * j), (0, μ 222 ((4 * j) + 2)), (0, μ 222 ((4 * j) + 3))] [(0, 3), (0, μ7 222 ((4 * j) + 1))] μ7 [pm_in ((4 * j) + 1), 0 ≤ (4 * j) + 1 ∧ (4 * j) + 1 < 128] rfl ⟨pm_in_mk (by omega) (by omega), ⟨by omega, by omega⟩, trivial⟩ ?_
        refine pm_icmp hK zmm311 .ne 14 122 rfl rfl (fun h21 => ?_) (fun h21 => ?_)
        · have h21 : μ7 222 ((4 * j) + 1) ≠ (3 : Int) := h21
          exact pm_vret rfl rfl ⟨rfl, hTμ7⟩
        · have h21 : μ7 222 ((4 * j) + 1) = (3 : Int) := h21
          have f29 := zT_get hTμ7 zs206_4 (i := 4 + (μ 222 ((4 * j) + 2))) (by omega) (by omega)
          refine pm_blk hK zmm311 [] 6 119 [(2, 205), (0, 4 * j), (0, μ 222 ((4 * j) + 2)), (0, μ 222 ((4 * j) + 3))] [(0, μ7 206 (4 + (μ 222 ((4 * j) + 2))))] μ7 [pm_in (4 + (μ 222 ((4 * j) + 2))), 0 ≤ 4 + (μ 222 ((4 * j) + 2)) ∧ 4 + (μ 222 ((4 * j) + 2)) < 160] rfl ⟨pm_in_mk (by omega) (by omega), ⟨by omega, by omega⟩, trivial⟩ ?_
          refine pm_if hK zmm311 .ne 4 123 rfl rfl (fun h22 => ?_) (fun h22 => ?_)
          · have h22 : μ7 206 (4 + (μ 222 ((4 * j) + 2))) ≠ (0 : Int) := h22
            refine pm_blk hK zmm311 [] 3 126 [(2, 205), (0, 4 * j), (0, μ 222 ((4 * j) + 2)), (0, μ 222 ((4 * j) + 3))] [(0, μ 222 ((4 * j) + 2)), (0, μ 222 ((4 * j) + 3)), (2, 205)] μ7 [] rfl trivial ?_
            refine pm_call hK zmm311 (349, 0, 309, 2) zM309 (0, 0) [(2, 205), (0, μ 222 ((4 * j) + 3)), (0, μ 222 ((4 * j) + 2))] [] rfl rfl rfl rfl ⟨by omega, by rw [zn309]; omega⟩ (zh_hasThing hK hTμ7 ⟨by omega, by omega⟩ ⟨by omega, by omega⟩ (by omega) hb206 ⟨by omega, by omega⟩) (fun st19 μc19 hp19 => ?_)
            obtain ⟨rfl, hTc19⟩ := hp19
            refine pm_blk hK zmm311 [] 4 133 [(2, 205), (0, 4 * j), (0, μ 222 ((4 * j) + 2)), (0, μ 222 ((4 * j) + 3))] [(0, μ 222 ((4 * j) + 2)), (0, μ 222 ((4 * j) + 3)), (0, 1), (2, 205)] μc19 [] rfl trivial ?_
            refine pm_call hK zmm311 (352, 0, 310, 3) zM310 (0, 0) [(2, 205), (0, 1), (0, μ 222 ((4 * j) + 3)), (0, μ 222 ((4 * j) + 2))] [] rfl rfl rfl rfl ⟨by omega, by rw [zn310]; omega⟩ (zh_notes hK hTc19 ⟨by omega, by omega⟩ ⟨by omega, by omega⟩ (pm_in_mk (by omega) (by omega)) hb206 hb210 ⟨by omega, by omega⟩) (fun st20 μc20 hp20 => ?_)
            obtain ⟨rfl, hTc20⟩ := hp20
            exact pm_vret rfl rfl ⟨rfl, hTc20⟩
          · have h22 : μ7 206 (4 + (μ 222 ((4 * j) + 2))) = (0 : Int) := h22
            exact pm_vret rfl rfl ⟨rfl, hTμ7⟩
set_option maxRecDepth 100000 in
theorem zl_day1 (hK : zKK ST) {X : Nat → List pm_V → List pm_V → pm_Mem → Prop} (hb206 : sx_bit Wm 206 = true) (hb210 : sx_bit Wm 210 = true) (K : ∀ (s : Int) (μ : pm_Mem), zTJ μ → zW D Wm ST b0 l Sg zM156 bud X 46 [(2, 205), (0, s)] [] μ) (hbd : 0 ≤ bud.1 ∧ 0 ≤ bud.2.1) : ∀ (n : Nat) {s : Int} {μ : pm_Mem}, (12 - s).toNat = n → ∀ (hs : 0 ≤ s ∧ s ≤ 12) (hT : zTJ μ), zW D Wm ST b0 l Sg zM156 bud X 2 [(2, 205), (0, s)] [] μ := by
  intro n
  induction n using Nat.strongRecOn with
  | ind n ih =>
    intro s μ hn hs hT
    have f1 := zT_get hT zs205_6 (i := 6) (by omega) (by omega)
    refine pm_blk hK zmm156 [] 3 7 [(2, 205), (0, s)] [(0, μ 205 6), (0, s)] μ [] rfl trivial ?_
    refine pm_icmp hK zmm156 .ge 39 46 rfl rfl (fun h0 => ?_) (fun h0 => ?_)
    · have h0 : μ 205 6 ≤ s := h0
      exact K _ _ hT
    · have h0 : s < μ 205 6 := h0
      refine pm_blk hK zmm156 [] 7 20 [(2, 205), (0, s)] [] (pm_up μ 206 (40 + s) 0) [pm_in (40 + s), sx_bit Wm 206 = true, 0 ≤ 40 + s ∧ 40 + s < 160] rfl ⟨pm_in_mk (by omega) (by omega), hb206, ⟨by omega, by omega⟩, trivial⟩ ?_
      obtain ⟨μ1, eμ1⟩ : ∃ μ', μ' = pm_up μ 206 (40 + s) 0 := ⟨_, rfl⟩
      rw [← eμ1]
      have hTμ1 : zTJ μ1 := by rw [eμ1]; exact zT_up hT zs206_40 rfl (i := 40 + s) (by omega) (by omega) (by omega) (by omega)
      refine pm_blk hK zmm156 [] 7 30 [(2, 205), (0, s)] [] (pm_up μ1 206 (52 + s) 0) [pm_in (52 + s), sx_bit Wm 206 = true, 0 ≤ 52 + s ∧ 52 + s < 160] rfl ⟨pm_in_mk (by omega) (by omega), hb206, ⟨by omega, by omega⟩, trivial⟩ ?_
      obtain ⟨μ2, eμ2⟩ : ∃ μ', μ' = pm_up μ1 206 (52 + s) 0 := ⟨_, rfl⟩
      rw [← eμ2]
      have hTμ2 : zTJ μ2 := by rw [eμ2]; exact zT_up hTμ1 zs206_52 rfl (i := 52 + s) (by omega) (by omega) (by omega) (by omega)
      refine pm_blk hK zmm156 [] 7 40 [(2, 205), (0, s)] [] (pm_up μ2 206 (64 + s) 0) [pm_in (64 + s), sx_bit Wm 206 = true, 0 ≤ 64 + s ∧ 64 + s < 160] rfl ⟨pm_in_mk (by omega) (by omega), hb206, ⟨by omega, by omega⟩, trivial⟩ ?_
      obtain ⟨μ3, eμ3⟩ : ∃ μ', μ' = pm_up μ2 206 (64 + s) 0 := ⟨_, rfl⟩
      rw [← eμ3]
      have hTμ3 : zTJ μ3 := by rw [eμ3]; exact zT_up hTμ2 zs206_52 rfl (i := 64 + s) (by omega) (by omega) (by omega) (by omega)
      refine pm_blk hK zmm156 [] 2 2 [(2, 205), (0, s + 1)] [] μ3 [pm_in (s + 1)] rfl ⟨pm_in_mk (by omega) (by omega), trivial⟩ ?_
      exact ih _ (by omega) rfl ⟨by omega, by omega⟩ hTμ3
set_option maxRecDepth 100000 in
theorem zl_day2 (hK : zKK ST)  (hb206 : sx_bit Wm 206 = true) (hb210 : sx_bit Wm 210 = true) (hbd : 2 ≤ bud.1 ∧ 47 ≤ bud.2.1) : ∀ (n : Nat) {j : Int} {μ : pm_Mem}, (16 - j).toNat = n → ∀ (hj : 0 ≤ j ∧ j ≤ 16) (hT : zTJ μ), zW D Wm ST b0 l Sg zM156 bud (pm_X zM156 (fun st' μ' => st' = [] ∧ zTJ μ')) 48 [(2, 205), (0, 4 * j)] [] μ := by
  intro n
  induction n using Nat.strongRecOn with
  | ind n ih =>
    intro j μ hn hj hT
    have f1 := zT_get hT zs205_35 (i := 35) (by omega) (by omega)
    refine pm_blk hK zmm156 [] 5 55 [(2, 205), (0, 4 * j)] [(0, 4 * (μ 205 35)), (0, 4 * j)] μ [pm_in (4 * (μ 205 35))] rfl ⟨pm_in_mk (by omega) (by omega), trivial⟩ ?_
    refine pm_icmp hK zmm156 .ge 30 85 rfl rfl (fun h0 => ?_) (fun h0 => ?_)
    · have h0 : 4 * (μ 205 35) ≤ 4 * j := h0
      exact pm_vret rfl rfl ⟨rfl, hT⟩
    · have h0 : 4 * j < 4 * (μ 205 35) := h0
      have f2 := zT_getp hT zp222_0 (i := 4 * j) (z := j) (by omega) (by omega) (by omega)
      have f3 := zT_get hT zs206_0 (i := 0) (by omega) (by omega)
      refine pm_blk hK zmm156 [] 8 70 [(2, 205), (0, 4 * j)] [(0, μ 206 0), (0, μ 222 (4 * j))] μ [0 ≤ 4 * j ∧ 4 * j < 128, 0 ≤ 0 ∧ 0 < 160] rfl ⟨⟨by omega, by omega⟩, ⟨by omega, by omega⟩, trivial⟩ ?_
      refine pm_icmp hK zmm156 .ne 8 78 rfl rfl (fun h1 => ?_) (fun h1 => ?_)
      · have h1 : μ 222 (4 * j) ≠ μ 206 0 := h1
        refine pm_blk hK zmm156 [] 5 48 [(2, 205), (0, (4 * j) + 4)] [] μ [pm_in ((4 * j) + 4)] rfl ⟨pm_in_mk (by omega) (by omega), trivial⟩ ?_
        have e : ((4 * j) + 4) = 4 * (j + 1) := by omega
        rw [e]
        exact ih _ (by omega) rfl ⟨by omega, by omega⟩ hT
      · have h1 : μ 222 (4 * j) = μ 206 0 := h1
        refine pm_blk hK zmm156 [] 2 75 [(2, 205), (0, 4 * j)] [(0, 4 * j), (2, 205)] μ [] rfl trivial ?_
        refine pm_call hK zmm156 (380, 0, 311, 1) zM311 (1, 24) [(2, 205), (0, 4 * j)] [] rfl rfl rfl rfl ⟨by omega, by rw [zn311]; omega⟩ (zh_does hK (j := j) hT ⟨by omega, by omega⟩ (hT.2.2.1 j (by omega) (by omega)) hb206 hb210 ⟨Nat.le_refl _, Nat.le_refl _⟩) (fun st1 μc1 hp1 => ?_)
        obtain ⟨rfl, hTc1⟩ := hp1
        refine pm_blk hK zmm156 [] 5 48 [(2, 205), (0, (4 * j) + 4)] [] μc1 [pm_in ((4 * j) + 4)] rfl ⟨pm_in_mk (by omega) (by omega), trivial⟩ ?_
        have e : ((4 * j) + 4) = 4 * (j + 1) := by omega
        rw [e]
        exact ih _ (by omega) rfl ⟨by omega, by omega⟩ hTc1
set_option maxRecDepth 100000 in
theorem zh_dayBegins (hK : zKK ST) (hT : zTJ μ) (hb206 : sx_bit Wm 206 = true) (hb210 : sx_bit Wm 210 = true) (hbd : 2 ≤ bud.1 ∧ 47 ≤ bud.2.1) : zC D Wm ST b0 l Sg zM156 bud [(2, 205)] μ (fun st' μ' => st' = [] ∧ zTJ μ') := by
  refine pm_blk hK zmm156 [] 2 2 [(2, 205), (0, 0)] [] μ [] rfl trivial ?_
  refine zl_day1 hK hb206 hb210 (fun s μ hT => ?_) ⟨by omega, by omega⟩ _ rfl ⟨by omega, by omega⟩ hT
  refine pm_blk hK zmm156 [] 2 48 [(2, 205), (0, 0)] [] μ [] rfl trivial ?_
  exact zl_day2 hK hb206 hb210 ⟨by omega, by omega⟩ _ (j := 0) rfl ⟨by omega, by omega⟩ hT
end ZHW
