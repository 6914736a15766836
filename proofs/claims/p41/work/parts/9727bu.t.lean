/-! THE LAW: conditions in the reference; walks printed by program (wip/p30/pmgen.py) and filled by hand -/
section ZHW
variable {φ : Option pm_Mem}
variable {D : va_G} {Wm : Nat} {ST : List (String × String × String × Nat)} {b0 : sx_B} {l : Launch} {Sg : Nat → Option Nat} {bud : sx_Bu} {μ : pm_Mem} {B0 : Nat → Prop} {J : (Nat → Option Nat) → Heap → Prop}
set_option maxRecDepth 100000 in
theorem zn_al (hK : zKK ST)  {μ0 : pm_Mem} {T : Int → Int} {L : Int} {K S V : Int → Int} {N j0 : Int} {P : Nat → Int} (hb205 : sx_bit Wm 205 = true) (hb218 : sx_bit Wm 218 = true) (hb219 : sx_bit Wm 219 = true) (hb220 : sx_bit Wm 220 = true) (hbd : 7 ≤ bud.1 ∧ 149 ≤ bud.2.1) : ∀ (n : Nat) {q t j : Int} {μ : pm_Mem}, (2 * (N - j) + t).toNat = n → ∀ (td : Nat) (m : Nat) (ht : t = (td : Int)) (htd : td ≤ 1) (hA : zAg T L K S V N P μ0 j0 td (2 + td) q m j μ) (hT : zTJ φ μ), zW D Wm ST b0 l Sg zM293 bud (pm_X zM293 (fun st' μ' => ∃ x f q LL, st' = [(0, x)] ∧ zTJ φ μ' ∧ zMw μ0 μ' ∧ zRx1 K V 1 [] 0 j0 f q LL ∧ ((x ≠ -1 ∧ f = 0 ∧ zMs K S V N P q μ' ∧ zRe μ0 μ' (zXp LL) ∧ μ' 205 25 + j0 ≤ μ0 205 25 + q ∧ μ' 205 26 = 0) ∨ (x = -1 ∧ f ≠ 0 ∧ zFm S f q μ')))) 9 [(2, 205), (0, q), (0, t), (9, 0)] [] μ := by
  intro n
  induction n using Nat.strongRecOn with
  | ind n ih =>
    intro q t j μ hn td m ht htd hA hT
    have hx := hA.1.1
    have hm := hA.1.2.1
    have hF := hA.1.2.2
    have hk := zMs_k hx hm
    obtain ⟨t1, t2, t3, t4⟩ := id hm
    obtain ⟨v1, v2, v3, v4, v5⟩ := id t3
    have hjl := hm.1
    have hnL := hx.1.1
    have h11 := hx.2.2
    have f11 := zT_get hT zs205_11 (i := 11) (by omega) (by omega)
    have f26 := zT_get hT zs205_26 (i := 26) (by omega) (by omega)
    have m26 := zAg_26 hA (by omega) (by omega)
    have hqb := zAg_q hA (by omega)
    have hbA := hA.2.2.2.1
    have hbj := hA.2.2.2.2
    have f25 := zT_get hT zs205_25 (i := 25) (by omega) (by omega)
    have e28Z := hA.2.1.1
    have e26Z := hA.2.1.2.1
    refine pm_blk hK zmm293 [] 1 10 [(2, 205), (0, q), (0, t), (9, 0)] [(0, t)] μ [] rfl trivial ?_
    refine pm_if hK zmm293 .eq 99 109 rfl rfl (fun h0 => ?_) (fun h0 => ?_)
    · have h0 : t = (0 : Int) := h0
      obtain rfl : td = 0 := by omega
      have hA0 : zAg T L K S V N P μ0 j0 0 2 q m j μ := hA
      refine pm_blk hK zmm293 [] 2 111 [(2, 205), (0, q), (0, t), (9, 0)] [(0, 5), (2, 205)] μ [] rfl trivial ?_
      refine pm_call hK zmm293 (245, 0, 142, 1) zM142 (0, 0) [(2, 205), (0, 5)] [] rfl rfl rfl rfl ⟨by omega, by rw [zn142]; omega⟩ (zm_isWord hK (kw := 316) (j := j) hx hm (by decide) (by decide) ⟨Nat.le_refl _, Nat.le_refl _⟩) (fun st1 μc1 hp1 => ?_)
      obtain ⟨rfl, x1, rfl, hw1⟩ := hp1
      have hw := hw1
      refine pm_if hK zmm293 .eq 24 138 rfl rfl (fun h1 => ?_) (fun h1 => ?_)
      · have h1 : x1 = (0 : Int) := h1
        refine pm_blk hK zmm293 [] 2 140 [(2, 205), (0, q), (0, t), (9, 0)] [(0, 4), (2, 205)] μ [] rfl trivial ?_
        refine pm_call hK zmm293 (245, 0, 142, 1) zM142 (0, 0) [(2, 205), (0, 4)] [] rfl rfl rfl rfl ⟨by omega, by rw [zn142]; omega⟩ (zm_isWord hK (kw := 315) (j := j) hx hm (by decide) (by decide) ⟨Nat.le_refl _, Nat.le_refl _⟩) (fun st2 μc2 hp2 => ?_)
        obtain ⟨rfl, x2, rfl, hw2⟩ := hp2
        have hw := hw2
        refine pm_if hK zmm293 .eq 30 173 rfl rfl (fun h2 => ?_) (fun h2 => ?_)
        · have h2 : x2 = (0 : Int) := h2
          have h6 : K j ≠ 316 := by omega
          have h5 : K j ≠ 315 := by omega
          refine pm_blk hK zmm293 [] 2 176 [(2, 205), (0, q), (0, t), (9, 0)] [(0, 10), (2, 205)] μ [] rfl trivial ?_
          have bdE : 0 ≤ μ 205 25 ∧ μ 205 25 + (m : Int) ≤ 400 := by omega
          have bmE : m ≤ 40 := by omega
          refine pm_call hK zmm293 (254, 0, 296, 1) zM296 (1, 22) [(2, 205), (0, 10)] [] rfl rfl rfl rfl ⟨by omega, by rw [zn296]; omega⟩ (zn_settles hK (o := 10) (m0 := m) hT e28Z e26Z (by decide) bdE bmE hb205 hb218 hb219 ⟨Nat.le_refl _, Nat.le_refl _⟩) (fun st3 μc3 hp3 => ?_)
          obtain ⟨rfl, hTc3, mE, kE, hsE, htE⟩ := hp3
          have hGE := zAg_10 hA0 hsE htE
          have e28E := hGE.2.1.1
          have e26E := hGE.2.1.2.1
          have hbE_ := hGE.2.2.2.1
          have foE := zT_get hTc3 zs205_26 (i := 26) (by omega) (by omega)
          have m26E := zAg_26 hGE (by decide) (by omega)
          have fz25E := zT_get hTc3 zs205_25 (i := 25) (by omega) (by omega)
          refine pm_blk hK zmm293 [] 2 182 [(2, 205), (0, q), (0, t), (9, 0)] [(0, 11), (2, 205)] μc3 [] rfl trivial ?_
          have bdF : 0 ≤ μc3 205 25 ∧ μc3 205 25 + (mE : Int) ≤ 400 := by omega
          have bmF : mE ≤ 40 := by omega
          refine pm_call hK zmm293 (254, 0, 296, 1) zM296 (1, 22) [(2, 205), (0, 11)] [] rfl rfl rfl rfl ⟨by omega, by rw [zn296]; omega⟩ (zn_settles hK (o := 11) (m0 := mE) hTc3 e28E e26E (by decide) bdF bmF hb205 hb218 hb219 ⟨Nat.le_refl _, Nat.le_refl _⟩) (fun st4 μc4 hp4 => ?_)
          obtain ⟨rfl, hTc4, mF, kF, hsF, htF⟩ := hp4
          have hGF := zAg_11 hGE (by omega) hsF htF
          have e28F := hGF.2.1.1
          have e26F := hGF.2.1.2.1
          have hbF_ := hGF.2.2.2.1
          have foF := zT_get hTc4 zs205_26 (i := 26) (by omega) (by omega)
          have m26F := zAg_26 hGF (by decide) (by omega)
          have fz25F := zT_get hTc4 zs205_25 (i := 25) (by omega) (by omega)
          refine pm_blk hK zmm293 [] 1 186 [(2, 205), (0, q), (0, t), (9, 0)] [(0, q)] μc4 [] rfl trivial ?_
          refine pm_if hK zmm293 .ne 5 191 rfl rfl (fun h3 => ?_) (fun h3 => ?_)
          · have h3 : q ≠ (0 : Int) := h3
            have hq0 : q ≠ 0 := h3
            have hxF := hGF.1.1
            have hmF := hGF.1.2.1
            obtain ⟨hx, hm, hF⟩ := hGF.1
            refine pm_blk hK zmm293 [] 2 194 [(2, 205), (0, q), (0, t), (9, 0)] [(0, 41), (2, 205)] μc4 [] rfl trivial ?_
            refine pm_call hK zmm293 (230, 0, 283, 1) zM283 (0, 0) [(2, 205), (0, 41)] [] rfl rfl rfl rfl ⟨by omega, by rw [zn283]; omega⟩ (zm_isSign hK (j := j) (c := 41) hx hm (by decide) ⟨Nat.le_refl _, Nat.le_refl _⟩) (fun st5 μc5 hp5 => ?_)
            obtain ⟨rfl, x5, rfl, hw5⟩ := hp5
            have hw := hw5
            refine pm_if hK zmm293 .ne 9 206 rfl rfl (fun h4 => ?_) (fun h4 => ?_)
            · have h4 : x5 ≠ (0 : Int) := h4
              have h41 : K j = 41 := by omega
              have hjn : j < N := by omega
              obtain ⟨m9, rfl, e12, h3k, o1⟩ := zAg_lq hGF hq0
              have f1 := zT_get hTc4 zs205_28 (i := 28) (by omega) (by omega)
              refine pm_blk hK zmm293 [] 6 216 [(2, 205), (0, q), (0, t), (9, 0)] [] (pm_up μc4 205 28 ((μc4 205 28) - 1)) [pm_in ((μc4 205 28) - 1), sx_bit Wm 205 = true] rfl ⟨pm_in_mk (by omega) (by omega), hb205, trivial⟩ ?_
              obtain ⟨μ1, eμ1⟩ : ∃ μ', μ' = pm_up μc4 205 28 ((μc4 205 28) - 1) := ⟨_, rfl⟩
              rw [← eμ1]
              have hTμ1 : zTJ φ μ1 := by rw [eμ1]; exact zT_up hTc4 zs205_28 rfl (i := 28) (by omega) (by omega) (by omega) (by omega)
              have es1 := eμ1
              have z26 : μ1 205 26 = μc4 205 26 := by rw [eμ1, pm_up_ne (by decide)]
              have f2 := zT_get hTμ1 zs205_26 (i := 26) (by omega) (by omega)
              refine pm_blk hK zmm293 [] 10 230 [(2, 205), (0, q - 1), (0, t), (9, 0)] [] (pm_up μ1 205 26 ((μ1 205 26) - 1)) [pm_in (q - 1), pm_in ((μ1 205 26) - 1), sx_bit Wm 205 = true] rfl ⟨pm_in_mk (by omega) (by omega), pm_in_mk (by omega) (by omega), hb205, trivial⟩ ?_
              obtain ⟨μ2, eμ2⟩ : ∃ μ', μ' = pm_up μ1 205 26 ((μ1 205 26) - 1) := ⟨_, rfl⟩
              rw [← eμ2]
              have hTμ2 : zTJ φ μ2 := by rw [eμ2]; exact zT_up hTμ1 zs205_26 rfl (i := 26) (by omega) (by omega) (by omega) (by omega)
              have es2 := eμ2
              have c28 : μ2 205 28 = (m9 : Int) := by rw [es2, pm_up_ne (by decide), es1, pm_up_eq]; omega
              have cq : μ2 220 = μc4 220 := by rw [es2, pm_up_row (by decide), es1, pm_up_row (by decide)]
              have c26 : μ2 205 26 = zOn (zPl_TT (μ2 220) m9) := by rw [cq, es2, pm_up_eq, z26, e26F, zPl_s, e12, zOn_c, if_pos (Or.inr rfl)]; omega
              have c25 : μ2 205 25 = μc4 205 25 := by rw [es2, pm_up_ne (by decide), es1, pm_up_ne (by decide)]
              refine pm_blk hK zmm293 [] 2 233 [(2, 205), (0, q - 1), (0, t), (9, 0)] [(0, 9), (2, 205)] μ2 [] rfl trivial ?_
              have bdH : 0 ≤ μ2 205 25 ∧ μ2 205 25 + (m9 : Int) ≤ 400 := by omega
              have bmH : m9 ≤ 40 := by omega
              refine pm_call hK zmm293 (254, 0, 296, 1) zM296 (1, 22) [(2, 205), (0, 9)] [] rfl rfl rfl rfl ⟨by omega, by rw [zn296]; omega⟩ (zn_settles hK (o := 9) (m0 := m9) hTμ2 c28 c26 (by decide) bdH bmH hb205 hb218 hb219 ⟨Nat.le_refl _, Nat.le_refl _⟩) (fun st6 μc6 hp6 => ?_)
              obtain ⟨rfl, hTc6, mH, kH, hsH, htH⟩ := hp6
              refine pm_blk hK zmm293 [] 1 237 [(2, 205), (0, q - 1), (0, t), (9, 0)] [(2, 205)] μc6 [] rfl trivial ?_
              refine pm_call hK zmm293 (223, 0, 139, 0) zM139 (2, 44) [(2, 205)] [] rfl rfl rfl rfl ⟨by omega, by rw [zn139]; omega⟩ (zt_reads hK hTc6 (by rw [hsH.2.2.2.2.2.2.1 12 (Or.inl rfl), hsH.2.2.2.2.1.2.1 11 (by decide) (by decide) (by decide) (by decide) (by decide) (by decide) (by decide) (by decide) (by decide), es2, pm_up_ne (by decide), pm_up_ne (by decide), es1, pm_up_ne (by decide), pm_up_ne (by decide)]; exact zMs_sp hx hm hjn) hb205 ⟨Nat.le_refl _, Nat.le_refl _⟩) (fun st7 μc7 hp7 => ?_)
              obtain ⟨rfl, hTc7, hr7⟩ := hp7
              have hrr := hr7
              refine pm_blk hK zmm293 [] 1 9 [(2, 205), (0, q - 1), (0, t), (9, 0)] [] μc7 [] rfl trivial ?_
              exact ih _ (by omega) (q := q - 1) (t := t) (j := j + 1) rfl 0 mH (by omega) (by decide) (zAg_close hGF h41 e12 h3k es1 es2 hsH htH hrr) hTc7
            · have h4 : x5 = (0 : Int) := h4
              refine pm_blk hK zmm293 [] 2 202 [(2, 205), (0, q), (0, t), (9, 0)] [(0, 1), (2, 205)] μc4 [] rfl trivial ?_
              refine pm_call hK zmm293 (216, 0, 278, 1) zM278 (0, 0) [(2, 205), (0, 1)] [] rfl rfl rfl rfl ⟨by omega, by rw [zn278]; omega⟩ (zm_errs hK (j := j) hx hm hTc4 ⟨by omega, by omega⟩ hb205 ⟨Nat.le_refl _, Nat.le_refl _⟩) (fun st8 μc8 hp8 => ?_)
              obtain ⟨rfl, hTc8, hF8, hf8⟩ := hp8
              have hF := zMw_tr hF (zMw_r hF8)
              have hff := hf8
              obtain ⟨LQ, hLQ⟩ := zAg_nof hGF hq0 h5 h6 (by omega)
              exact pm_iret rfl rfl ⟨_, 1, j, LQ, rfl, hTc8, hF, hLQ, Or.inr ⟨rfl, by decide, hff⟩⟩
          · have h3 : q = (0 : Int) := h3
            refine pm_blk hK zmm293 [] 1 190 [(2, 205), (0, q), (0, t), (9, 0)] [(0, 0)] μc4 [] rfl trivial ?_
            have hq0 : q = 0 := h3
            subst hq0
            obtain ⟨LQ, b1, b2, b3, b4⟩ := zAg_fin hGF h5 h6
            exact pm_iret rfl rfl ⟨_, 0, j, LQ, rfl, hTc4, hGF.1.2.2, b1, Or.inl ⟨by decide, rfl, hGF.1.2.1, b2, b4, b3⟩⟩
        · have h2 : x2 ≠ (0 : Int) := h2
          have h315 : K j = 315 := by omega
          have hjn : j < N := by omega
          refine pm_blk hK zmm293 [] 2 149 [(2, 205), (0, q), (0, t), (9, 0)] [(0, 10), (2, 205)] μ [] rfl trivial ?_
          have bdC : 0 ≤ μ 205 25 ∧ μ 205 25 + (m : Int) ≤ 400 := by omega
          have bmC : m ≤ 40 := by omega
          refine pm_call hK zmm293 (254, 0, 296, 1) zM296 (1, 22) [(2, 205), (0, 10)] [] rfl rfl rfl rfl ⟨by omega, by rw [zn296]; omega⟩ (zn_settles hK (o := 10) (m0 := m) hT e28Z e26Z (by decide) bdC bmC hb205 hb218 hb219 ⟨Nat.le_refl _, Nat.le_refl _⟩) (fun st9 μc9 hp9 => ?_)
          obtain ⟨rfl, hTc9, mC, kC, hsC, htC⟩ := hp9
          have hGC := zAg_10 hA0 hsC htC
          have e28C := hGC.2.1.1
          have e26C := hGC.2.1.2.1
          have hbC_ := hGC.2.2.2.1
          have foC := zT_get hTc9 zs205_26 (i := 26) (by omega) (by omega)
          have m26C := zAg_26 hGC (by decide) (by omega)
          have fz25C := zT_get hTc9 zs205_25 (i := 25) (by omega) (by omega)
          refine pm_blk hK zmm293 [] 2 155 [(2, 205), (0, q), (0, t), (9, 0)] [(0, 11), (2, 205)] μc9 [] rfl trivial ?_
          have bdD : 0 ≤ μc9 205 25 ∧ μc9 205 25 + (mC : Int) ≤ 400 := by omega
          have bmD : mC ≤ 40 := by omega
          refine pm_call hK zmm293 (254, 0, 296, 1) zM296 (1, 22) [(2, 205), (0, 11)] [] rfl rfl rfl rfl ⟨by omega, by rw [zn296]; omega⟩ (zn_settles hK (o := 11) (m0 := mC) hTc9 e28C e26C (by decide) bdD bmD hb205 hb218 hb219 ⟨Nat.le_refl _, Nat.le_refl _⟩) (fun st10 μc10 hp10 => ?_)
          obtain ⟨rfl, hTc10, mD, kD, hsD, htD⟩ := hp10
          have hGD := zAg_11 hGC (by omega) hsD htD
          have e28D := hGD.2.1.1
          have e26D := hGD.2.1.2.1
          have hbD_ := hGD.2.2.2.1
          have foD := zT_get hTc10 zs205_26 (i := 26) (by omega) (by omega)
          have m26D := zAg_26 hGD (by decide) (by omega)
          have fz25D := zT_get hTc10 zs205_25 (i := 25) (by omega) (by omega)
          refine pm_blk hK zmm293 [] 2 161 [(2, 205), (0, q), (0, t), (9, 0)] [(0, 11), (2, 205)] μc10 [] rfl trivial ?_
          refine pm_call hK zmm293 (248, 0, 294, 1) zM294 (0, 0) [(2, 205), (0, 11)] [] rfl rfl rfl rfl ⟨by omega, by rw [zn294]; omega⟩ (zh_waits hK (v := 11) hTc10 ⟨by omega, by omega⟩ ⟨by omega, by omega⟩ hb205 hb220 ⟨Nat.le_refl _, Nat.le_refl _⟩) (fun st11 μc11 hp11 => ?_)
          obtain ⟨rfl, hTc11, μw11, hwa11, hwb11⟩ := hp11
          have hwa := hwa11
          have hwb := hwb11
          have hwz : μw11 = μw11 := rfl
          refine pm_blk hK zmm293 [] 1 165 [(2, 205), (0, q), (0, t), (9, 0)] [(2, 205)] μc11 [] rfl trivial ?_
          refine pm_call hK zmm293 (223, 0, 139, 0) zM139 (2, 44) [(2, 205)] [] rfl rfl rfl rfl ⟨by omega, by rw [zn139]; omega⟩ (zt_reads hK hTc11 (by rw [hwb, pm_up_ne (by decide), pm_up_ne (by decide), hwa, pm_up_off (by decide), pm_up_off (by decide)]; exact zMs_sp hGD.1.1 hGD.1.2.1 hjn) hb205 ⟨Nat.le_refl _, Nat.le_refl _⟩) (fun st12 μc12 hp12 => ?_)
          obtain ⟨rfl, hTc12, hr12⟩ := hp12
          have hrr := hr12
          refine pm_blk hK zmm293 [] 3 9 [(2, 205), (0, q), (0, 1), (9, 0)] [] μc12 [] rfl trivial ?_
          exact ih _ (by omega) (q := q) (t := 1) (j := j + 1) rfl 1 (mD + 1) rfl (by decide) (zAg_wait hGD hwa hwb hrr (Or.inr ⟨rfl, h315, rfl⟩)) hTc12
      · have h1 : x1 ≠ (0 : Int) := h1
        have h316 : K j = 316 := by omega
        have hjn : j < N := by omega
        refine pm_blk hK zmm293 [] 2 120 [(2, 205), (0, q), (0, t), (9, 0)] [(0, 10), (2, 205)] μ [] rfl trivial ?_
        have bdB : 0 ≤ μ 205 25 ∧ μ 205 25 + (m : Int) ≤ 400 := by omega
        have bmB : m ≤ 40 := by omega
        refine pm_call hK zmm293 (254, 0, 296, 1) zM296 (1, 22) [(2, 205), (0, 10)] [] rfl rfl rfl rfl ⟨by omega, by rw [zn296]; omega⟩ (zn_settles hK (o := 10) (m0 := m) hT e28Z e26Z (by decide) bdB bmB hb205 hb218 hb219 ⟨Nat.le_refl _, Nat.le_refl _⟩) (fun st13 μc13 hp13 => ?_)
        obtain ⟨rfl, hTc13, mB, kB, hsB, htB⟩ := hp13
        have hGB := zAg_10 hA0 hsB htB
        have e28B := hGB.2.1.1
        have e26B := hGB.2.1.2.1
        have hbB_ := hGB.2.2.2.1
        have foB := zT_get hTc13 zs205_26 (i := 26) (by omega) (by omega)
        have m26B := zAg_26 hGB (by decide) (by omega)
        have fz25B := zT_get hTc13 zs205_25 (i := 25) (by omega) (by omega)
        refine pm_blk hK zmm293 [] 2 126 [(2, 205), (0, q), (0, t), (9, 0)] [(0, 10), (2, 205)] μc13 [] rfl trivial ?_
        refine pm_call hK zmm293 (248, 0, 294, 1) zM294 (0, 0) [(2, 205), (0, 10)] [] rfl rfl rfl rfl ⟨by omega, by rw [zn294]; omega⟩ (zh_waits hK (v := 10) hTc13 ⟨by omega, by omega⟩ ⟨by omega, by omega⟩ hb205 hb220 ⟨Nat.le_refl _, Nat.le_refl _⟩) (fun st14 μc14 hp14 => ?_)
        obtain ⟨rfl, hTc14, μw14, hwa14, hwb14⟩ := hp14
        have hwa := hwa14
        have hwb := hwb14
        have hwz : μw14 = μw14 := rfl
        refine pm_blk hK zmm293 [] 1 130 [(2, 205), (0, q), (0, t), (9, 0)] [(2, 205)] μc14 [] rfl trivial ?_
        refine pm_call hK zmm293 (223, 0, 139, 0) zM139 (2, 44) [(2, 205)] [] rfl rfl rfl rfl ⟨by omega, by rw [zn139]; omega⟩ (zt_reads hK hTc14 (by rw [hwb, pm_up_ne (by decide), pm_up_ne (by decide), hwa, pm_up_off (by decide), pm_up_off (by decide)]; exact zMs_sp hGB.1.1 hGB.1.2.1 hjn) hb205 ⟨Nat.le_refl _, Nat.le_refl _⟩) (fun st15 μc15 hp15 => ?_)
        obtain ⟨rfl, hTc15, hr15⟩ := hp15
        have hrr := hr15
        refine pm_blk hK zmm293 [] 3 9 [(2, 205), (0, q), (0, 1), (9, 0)] [] μc15 [] rfl trivial ?_
        exact ih _ (by omega) (q := q) (t := 1) (j := j + 1) rfl 1 (mB + 1) rfl (by decide) (zAg_wait hGB hwa hwb hrr (Or.inl ⟨rfl, h316, rfl⟩)) hTc15
    · have h0 : t ≠ (0 : Int) := h0
      obtain rfl : td = 1 := by omega
      have hA1 : zAg T L K S V N P μ0 j0 1 3 q m j μ := hA
      refine pm_blk hK zmm293 [] 2 16 [(2, 205), (0, q), (0, t), (9, 0)] [(0, 6), (2, 205)] μ [] rfl trivial ?_
      refine pm_call hK zmm293 (245, 0, 142, 1) zM142 (0, 0) [(2, 205), (0, 6)] [] rfl rfl rfl rfl ⟨by omega, by rw [zn142]; omega⟩ (zm_isWord hK (kw := 317) (j := j) hx hm (by decide) (by decide) ⟨Nat.le_refl _, Nat.le_refl _⟩) (fun st16 μc16 hp16 => ?_)
      obtain ⟨rfl, x16, rfl, hw16⟩ := hp16
      have hw := hw16
      refine pm_blk hK zmm293 [] 2 21 [(2, 205), (0, q), (0, t), (0, x16)] [(0, x16)] μ [] rfl trivial ?_
      refine pm_if hK zmm293 .ne 12 33 rfl rfl (fun h5 => ?_) (fun h5 => ?_)
      · have h5 : x16 ≠ (0 : Int) := h5
        have hnb : K j = 317 ∨ K j = 40 := by omega
        have hjn : j < N := by omega
        have f3 := zT_get hT zs205_26 (i := 26) (by omega) (by omega)
        refine pm_blk hK zmm293 [] 3 39 [(2, 205), (0, q), (0, t), (0, x16)] [(0, 8), (0, μ 205 26)] μ [] rfl trivial ?_
        refine pm_icmp hK zmm293 .ne 9 48 rfl rfl (fun h6 => ?_) (fun h6 => ?_)
        · have h6 : μ 205 26 ≠ (8 : Int) := h6
          refine pm_blk hK zmm293 [] 6 58 [(2, 205), (0, q), (0, t), (0, x16)] [] (pm_up μ 205 26 ((μ 205 26) + 1)) [pm_in ((μ 205 26) + 1), sx_bit Wm 205 = true] rfl ⟨pm_in_mk (by omega) (by omega), hb205, trivial⟩ ?_
          obtain ⟨μ3, eμ3⟩ : ∃ μ', μ' = pm_up μ 205 26 ((μ 205 26) + 1) := ⟨_, rfl⟩
          rw [← eμ3]
          have hTμ3 : zTJ φ μ3 := by rw [eμ3]; exact zT_up hT zs205_26 rfl (i := 26) (by omega) (by omega) (by omega) (by omega)
          have a28 : μ3 205 28 = (m : Int) := by rw [eμ3, pm_up_ne (by decide)]; exact e28Z
          have h1w : zMw μ μ3 := by rw [eμ3]; exact zMw_5 (Or.inl rfl)
          have esto := eμ3
          have w12 : μ3 205 12 = μ 205 12 := by rw [eμ3, pm_up_ne (by decide)]
          have w11 : μ3 205 11 = μ 205 11 := by rw [eμ3, pm_up_ne (by decide)]
          refine pm_blk hK zmm293 [] 1 59 [(2, 205), (0, q), (0, t), (0, x16)] [(0, x16)] μ3 [] rfl trivial ?_
          refine pm_if hK zmm293 .ne 7 66 rfl rfl (fun h7 => ?_) (fun h7 => ?_)
          · have h7 : x16 ≠ (0 : Int) := h7
            refine pm_blk hK zmm293 [] 2 68 [(2, 205), (0, q), (0, t), (0, x16)] [(0, x16), (2, 205)] μ3 [] rfl trivial ?_
            refine pm_if hK zmm293 .eq 8 76 rfl rfl (fun h8 => ?_) (fun h8 => ?_)
            · have h8 : x16 = (0 : Int) := h8
              exact absurd h8 h7
            · have h8 : x16 ≠ (0 : Int) := h8
              refine pm_blk hK zmm293 [] 2 78 [(2, 205), (0, q), (0, t), (0, x16)] [(0, 9), (2, 205)] μ3 [] rfl trivial ?_
              refine pm_call hK zmm293 (248, 0, 294, 1) zM294 (0, 0) [(2, 205), (0, 9)] [] rfl rfl rfl rfl ⟨by omega, by rw [zn294]; omega⟩ (zh_waits hK (v := 9) hTμ3 ⟨by omega, by omega⟩ ⟨by omega, by omega⟩ hb205 hb220 ⟨Nat.le_refl _, Nat.le_refl _⟩) (fun st17 μc17 hp17 => ?_)
              obtain ⟨rfl, hTc17, μw17, hwa17, hwb17⟩ := hp17
              have hwa := hwa17
              have hwb := hwb17
              have hwz : μw17 = μw17 := rfl
              refine pm_blk hK zmm293 [] 1 82 [(2, 205), (0, q), (0, t), (0, x16)] [(2, 205)] μc17 [] rfl trivial ?_
              refine pm_call hK zmm293 (223, 0, 139, 0) zM139 (2, 44) [(2, 205)] [] rfl rfl rfl rfl ⟨by omega, by rw [zn139]; omega⟩ (zt_reads hK hTc17 (by rw [hwb, pm_up_ne (by decide), pm_up_ne (by decide), hwa, pm_up_off (by decide), pm_up_off (by decide), w12, w11]; exact zMs_sp hx hm hjn) hb205 ⟨Nat.le_refl _, Nat.le_refl _⟩) (fun st18 μc18 hp18 => ?_)
              obtain ⟨rfl, hTc18, hr18⟩ := hp18
              have hrr := hr18
              refine pm_blk hK zmm293 [] 1 9 [(2, 205), (0, q), (0, t), (0, x16)] [] μc18 [] rfl trivial ?_
              refine pm_hide [3] ?_
              exact ih _ (by omega) (q := q) (t := t) (j := j + 1) rfl 1 (m + 1) (by omega) (by decide) (zAg_open hA1 (by omega) esto hwa hwb hrr (by first | exact Or.inl ⟨rfl, by omega, rfl⟩ | exact Or.inr ⟨rfl, by omega, rfl⟩)) hTc18
          · have h7 : x16 = (0 : Int) := h7
            exact absurd h7 h5
        · have h6 : μ 205 26 = (8 : Int) := h6
          refine pm_blk hK zmm293 [] 2 44 [(2, 205), (0, q), (0, t), (0, x16)] [(0, 3), (2, 205)] μ [] rfl trivial ?_
          refine pm_call hK zmm293 (216, 0, 278, 1) zM278 (0, 0) [(2, 205), (0, 3)] [] rfl rfl rfl rfl ⟨by omega, by rw [zn278]; omega⟩ (zm_errs hK (j := j) hx hm hT ⟨by omega, by omega⟩ hb205 ⟨Nat.le_refl _, Nat.le_refl _⟩) (fun st19 μc19 hp19 => ?_)
          obtain ⟨rfl, hTc19, hF19, hf19⟩ := hp19
          have hF := zMw_tr hF (zMw_r hF19)
          have hff := hf19
          obtain ⟨LQ, hLQ⟩ := zAg_flt hA1 (f := 3) (L1 := []) (p := j) (zBx_3 hnb (by omega)) (by decide)
          exact pm_iret rfl rfl ⟨_, 3, j, LQ, rfl, hTc19, hF, hLQ, Or.inr ⟨rfl, by decide, hff⟩⟩
      · have h5 : x16 = (0 : Int) := h5
        refine pm_blk hK zmm293 [] 2 27 [(2, 205), (0, q), (0, t), (0, x16)] [(0, 40), (2, 205)] μ [] rfl trivial ?_
        refine pm_call hK zmm293 (230, 0, 283, 1) zM283 (0, 0) [(2, 205), (0, 40)] [] rfl rfl rfl rfl ⟨by omega, by rw [zn283]; omega⟩ (zm_isSign hK (j := j) (c := 40) hx hm (by decide) ⟨Nat.le_refl _, Nat.le_refl _⟩) (fun st20 μc20 hp20 => ?_)
        obtain ⟨rfl, x20, rfl, hw20⟩ := hp20
        have hw := hw20
        refine pm_if hK zmm293 .eq 58 88 rfl rfl (fun h9 => ?_) (fun h9 => ?_)
        · have h9 : x20 = (0 : Int) := h9
          have hk1 : K j ≠ 317 := by omega
          have hk2 : K j ≠ 40 := by omega
          refine pm_blk hK zmm293 [] 1 89 [(2, 205), (0, q), (0, t), (0, x16)] [(2, 205)] μ [] rfl trivial ?_
          refine pm_call hK zmm293 (251, 0, 295, 0) zM295 (6, 128) [(2, 205)] [] rfl rfl rfl rfl ⟨by omega, by rw [zn295]; omega⟩ (zn_cmp hK (j := j) hx hm hT (by omega) hb205 hb218 hb219 ⟨Nat.le_refl _, Nat.le_refl _⟩) (fun st21 μc21 hp21 => ?_)
          obtain ⟨x21, gg, pp, LL, rfl, hTc21, hF21, hPP, hR⟩ := hp21
          have hFq := hF21
          refine pm_blk hK zmm293 [] 1 93 [(2, 205), (0, q), (0, t), (0, x16)] [(0, (-1)), (0, x21)] μc21 [] rfl trivial ?_
          refine pm_icmp hK zmm293 .ne 5 98 rfl rfl (fun h10 => ?_) (fun h10 => ?_)
          · have h10 : x21 ≠ ((-1) : Int) := h10
            obtain ⟨g0, hmc, hdu, hl9⟩ := zMok hR (by omega)
            subst g0
            have hgc := zCm_gt hPP
            have hjc := hmc.1
            have c28 : μc21 205 28 = (m : Int) := (hFq.2.1 28 (by decide) (by decide) (by decide) (by decide) (by decide) (by decide) (by decide)).trans e28Z
            have c26 : μc21 205 26 = zOn (zPl_TT (μc21 220) m) := by rw [hFq.2.1 26 (by decide) (by decide) (by decide) (by decide) (by decide) (by decide) (by decide), hFq.1 220 (by decide) (by decide) (by decide)]; exact e26Z
            have fz25 := zT_get hTc21 zs205_25 (i := 25) (by omega) (by omega)
            refine pm_blk hK zmm293 [] 2 101 [(2, 205), (0, q), (0, t), (0, x16)] [(0, 9), (2, 205)] μc21 [] rfl trivial ?_
            have bdA : 0 ≤ μc21 205 25 ∧ μc21 205 25 + (m : Int) ≤ 400 := by omega
            have bmA : m ≤ 40 := by omega
            refine pm_call hK zmm293 (254, 0, 296, 1) zM296 (1, 22) [(2, 205), (0, 9)] [] rfl rfl rfl rfl ⟨by omega, by rw [zn296]; omega⟩ (zn_settles hK (o := 9) (m0 := m) hTc21 c28 c26 (by decide) bdA bmA hb205 hb218 hb219 ⟨Nat.le_refl _, Nat.le_refl _⟩) (fun st22 μc22 hp22 => ?_)
            obtain ⟨rfl, hTc22, mA, kA, hsA, htA⟩ := hp22
            have hG2 := zAg_cmp hA1 hk1 hk2 hPP hFq hmc hdu hl9 hsA htA
            have hTA := hTc22
            refine pm_blk hK zmm293 [] 3 9 [(2, 205), (0, q), (0, 0), (0, x16)] [] μc22 [] rfl trivial ?_
            refine pm_hide [3] ?_
            exact ih _ (by omega) (q := q) (t := 0) (j := pp) rfl 0 mA rfl (by decide) hG2 hTA
          · have h10 : x21 = ((-1) : Int) := h10
            refine pm_blk hK zmm293 [] 1 97 [(2, 205), (0, q), (0, t), (0, x16)] [(0, (-1))] μc21 [] rfl trivial ?_
            obtain ⟨g1, hff⟩ := zMno hR (by omega)
            obtain ⟨LQ, hLQ⟩ := zAg_flt hA1 (f := gg) (L1 := LL) (p := pp) (zBx_c hk1 hk2 hPP) g1
            exact pm_iret rfl rfl ⟨_, gg, pp, LQ, rfl, hTc21, zMw_tr hF (zMw_q hFq), hLQ, Or.inr ⟨rfl, g1, hff⟩⟩
        · have h9 : x20 ≠ (0 : Int) := h9
          have hnb : K j = 317 ∨ K j = 40 := by omega
          have hjn : j < N := by omega
          have f4 := zT_get hT zs205_26 (i := 26) (by omega) (by omega)
          refine pm_blk hK zmm293 [] 3 39 [(2, 205), (0, q), (0, t), (0, x16)] [(0, 8), (0, μ 205 26)] μ [] rfl trivial ?_
          refine pm_icmp hK zmm293 .ne 9 48 rfl rfl (fun h11 => ?_) (fun h11 => ?_)
          · have h11 : μ 205 26 ≠ (8 : Int) := h11
            refine pm_blk hK zmm293 [] 6 58 [(2, 205), (0, q), (0, t), (0, x16)] [] (pm_up μ 205 26 ((μ 205 26) + 1)) [pm_in ((μ 205 26) + 1), sx_bit Wm 205 = true] rfl ⟨pm_in_mk (by omega) (by omega), hb205, trivial⟩ ?_
            obtain ⟨μ4, eμ4⟩ : ∃ μ', μ' = pm_up μ 205 26 ((μ 205 26) + 1) := ⟨_, rfl⟩
            rw [← eμ4]
            have hTμ4 : zTJ φ μ4 := by rw [eμ4]; exact zT_up hT zs205_26 rfl (i := 26) (by omega) (by omega) (by omega) (by omega)
            have a28 : μ4 205 28 = (m : Int) := by rw [eμ4, pm_up_ne (by decide)]; exact e28Z
            have h1w : zMw μ μ4 := by rw [eμ4]; exact zMw_5 (Or.inl rfl)
            have esto := eμ4
            have w12 : μ4 205 12 = μ 205 12 := by rw [eμ4, pm_up_ne (by decide)]
            have w11 : μ4 205 11 = μ 205 11 := by rw [eμ4, pm_up_ne (by decide)]
            refine pm_blk hK zmm293 [] 1 59 [(2, 205), (0, q), (0, t), (0, x16)] [(0, x16)] μ4 [] rfl trivial ?_
            refine pm_if hK zmm293 .ne 7 66 rfl rfl (fun h12 => ?_) (fun h12 => ?_)
            · have h12 : x16 ≠ (0 : Int) := h12
              exact absurd h5 h12
            · have h12 : x16 = (0 : Int) := h12
              refine pm_blk hK zmm293 [] 6 68 [(2, 205), (0, q + 1), (0, t), (0, x16)] [(0, x16), (2, 205)] μ4 [pm_in (q + 1)] rfl ⟨pm_in_mk (by omega) (by omega), trivial⟩ ?_
              refine pm_if hK zmm293 .eq 8 76 rfl rfl (fun h13 => ?_) (fun h13 => ?_)
              · have h13 : x16 = (0 : Int) := h13
                refine pm_blk hK zmm293 [] 1 78 [(2, 205), (0, q + 1), (0, t), (0, x16)] [(0, 12), (2, 205)] μ4 [] rfl trivial ?_
                refine pm_call hK zmm293 (248, 0, 294, 1) zM294 (0, 0) [(2, 205), (0, 12)] [] rfl rfl rfl rfl ⟨by omega, by rw [zn294]; omega⟩ (zh_waits hK (v := 12) hTμ4 ⟨by omega, by omega⟩ ⟨by omega, by omega⟩ hb205 hb220 ⟨Nat.le_refl _, Nat.le_refl _⟩) (fun st23 μc23 hp23 => ?_)
                obtain ⟨rfl, hTc23, μw23, hwa23, hwb23⟩ := hp23
                have hwa := hwa23
                have hwb := hwb23
                have hwz : μw23 = μw23 := rfl
                refine pm_blk hK zmm293 [] 1 82 [(2, 205), (0, q + 1), (0, t), (0, x16)] [(2, 205)] μc23 [] rfl trivial ?_
                refine pm_call hK zmm293 (223, 0, 139, 0) zM139 (2, 44) [(2, 205)] [] rfl rfl rfl rfl ⟨by omega, by rw [zn139]; omega⟩ (zt_reads hK hTc23 (by rw [hwb, pm_up_ne (by decide), pm_up_ne (by decide), hwa, pm_up_off (by decide), pm_up_off (by decide), w12, w11]; exact zMs_sp hx hm hjn) hb205 ⟨Nat.le_refl _, Nat.le_refl _⟩) (fun st24 μc24 hp24 => ?_)
                obtain ⟨rfl, hTc24, hr24⟩ := hp24
                have hrr := hr24
                refine pm_blk hK zmm293 [] 1 9 [(2, 205), (0, q + 1), (0, t), (0, x16)] [] μc24 [] rfl trivial ?_
                refine pm_hide [3] ?_
                exact ih _ (by omega) (q := q + 1) (t := t) (j := j + 1) rfl 1 (m + 1) (by omega) (by decide) (zAg_open hA1 (by omega) esto hwa hwb hrr (by first | exact Or.inl ⟨rfl, by omega, rfl⟩ | exact Or.inr ⟨rfl, by omega, rfl⟩)) hTc24
              · have h13 : x16 ≠ (0 : Int) := h13
                exact absurd h12 h13
          · have h11 : μ 205 26 = (8 : Int) := h11
            refine pm_blk hK zmm293 [] 2 44 [(2, 205), (0, q), (0, t), (0, x16)] [(0, 3), (2, 205)] μ [] rfl trivial ?_
            refine pm_call hK zmm293 (216, 0, 278, 1) zM278 (0, 0) [(2, 205), (0, 3)] [] rfl rfl rfl rfl ⟨by omega, by rw [zn278]; omega⟩ (zm_errs hK (j := j) hx hm hT ⟨by omega, by omega⟩ hb205 ⟨Nat.le_refl _, Nat.le_refl _⟩) (fun st25 μc25 hp25 => ?_)
            obtain ⟨rfl, hTc25, hF25, hf25⟩ := hp25
            have hF := zMw_tr hF (zMw_r hF25)
            have hff := hf25
            obtain ⟨LQ, hLQ⟩ := zAg_flt hA1 (f := 3) (L1 := []) (p := j) (zBx_3 hnb (by omega)) (by decide)
            exact pm_iret rfl rfl ⟨_, 3, j, LQ, rfl, hTc25, hF, hLQ, Or.inr ⟨rfl, by decide, hff⟩⟩
set_option maxRecDepth 100000 in
theorem zn_any0 (hK : zKK ST) {T : Int → Int} {L : Int} {K S V : Int → Int} {N j : Int} {P : Nat → Int} (hx : zMx T L K S V N P μ) (hm : zMs K S V N P j μ) (hT : zTJ φ μ) (hcl : μ 205 25 ≤ j) (h26 : μ 205 26 = 0) (hb205 : sx_bit Wm 205 = true) (hb218 : sx_bit Wm 218 = true) (hb219 : sx_bit Wm 219 = true) (hb220 : sx_bit Wm 220 = true) (hbd : 7 ≤ bud.1 ∧ 149 ≤ bud.2.1) : zC D Wm ST b0 l Sg zM293 bud [(2, 205)] μ (fun st' μ' => ∃ x f q LL, st' = [(0, x)] ∧ zTJ φ μ' ∧ zMw μ μ' ∧ zRx1 K V 1 [] 0 j f q LL ∧ ((x ≠ -1 ∧ f = 0 ∧ zMs K S V N P q μ' ∧ zRe μ μ' (zXp LL) ∧ μ' 205 25 + j ≤ μ 205 25 + q ∧ μ' 205 26 = 0) ∨ (x = -1 ∧ f ≠ 0 ∧ zFm S f q μ'))) := by
  refine pm_blk hK zmm293 [] 5 7 [(2, 205), (0, 0), (9, 0), (9, 0)] [] (pm_up μ 205 28 0) [sx_bit Wm 205 = true] rfl ⟨hb205, trivial⟩ ?_
  obtain ⟨μ1, eμ1⟩ : ∃ μ', μ' = pm_up μ 205 28 0 := ⟨_, rfl⟩
  rw [← eμ1]
  have hTμ1 : zTJ φ μ1 := by rw [eμ1]; exact zT_up hT zs205_28 rfl (i := 28) (by omega) (by omega) (by omega) (by omega)
  refine pm_blk hK zmm293 [] 2 9 [(2, 205), (0, 0), (0, 1), (9, 0)] [] μ1 [] rfl trivial ?_
  exact zn_al hK (μ0 := μ) (j0 := j) hb205 hb218 hb219 hb220 hbd _ (q := 0) (t := 1) (j := j) rfl 1 0 rfl (by decide) (zAg_0 hx hm h26 hcl eμ1) hTμ1
set_option maxRecDepth 100000 in
theorem zn_any (hK : zKK ST) {T : Int → Int} {L : Int} {K S V : Int → Int} {N j : Int} {P : Nat → Int} (hx : zMx T L K S V N P μ) (hm : zMs K S V N P j μ) (hT : zTJ φ μ) (hcl : μ 205 25 ≤ j) (h26 : μ 205 26 = 0) (hb205 : sx_bit Wm 205 = true) (hb218 : sx_bit Wm 218 = true) (hb219 : sx_bit Wm 219 = true) (hb220 : sx_bit Wm 220 = true) (hbd : 7 ≤ bud.1 ∧ 149 ≤ bud.2.1) : zC D Wm ST b0 l Sg zM293 bud [(2, 205)] μ (fun st' μ' => ∃ x f q LL, st' = [(0, x)] ∧ zTJ φ μ' ∧ zMw μ μ' ∧ zBx K V 1 0 (-1) j f q LL ∧ ((x ≠ -1 ∧ f = 0 ∧ zMs K S V N P q μ' ∧ zRe μ μ' (zXp LL) ∧ μ' 205 25 + j ≤ μ 205 25 + q ∧ μ' 205 26 = 0) ∨ (x = -1 ∧ f ≠ 0 ∧ zFm S f q μ'))) :=
  zC_mono (zn_any0 hK hx hm hT hcl h26 hb205 hb218 hb219 hb220 hbd) (fun st' μ' h9 => by
    obtain ⟨x, f, q, LL, h1, h2, h3, h4, h5⟩ := h9
    obtain ⟨L2, e1, e2⟩ := zRx1_all h4
    rcases h5 with ⟨k1, k2, k3, k4, k5⟩ | h5
    · have e3 := e2 k2
      subst e3
      exact ⟨x, f, q, L2, h1, h2, h3, e1, Or.inl ⟨k1, k2, k3, k4, k5⟩⟩
    · exact ⟨x, f, q, L2, h1, h2, h3, e1, Or.inr h5⟩)
end ZHW
