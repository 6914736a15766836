/-! a text told anew: the reference, wholly; walks printed by program (wip/p30/pmgen.py) and filled by hand -/
section ZHW
variable {D : va_G} {Wm : Nat} {ST : List (String × String × String × Nat)} {b0 : sx_B} {l : Launch} {Sg : Nat → Option Nat} {bud : sx_Bu} {μ : pm_Mem} {B0 : Nat → Prop} {J : (Nat → Option Nat) → Heap → Prop}
set_option maxRecDepth 100000 in
theorem zx_textRn (hK : zKK ST) {k : Int} (hk : k < 0 ∨ 3 < k) (hT : zTJ none μ) (hb205 : sx_bit Wm 205 = true) (hbd : 1 ≤ bud.1 ∧ 40 ≤ bud.2.1) : zC D Wm ST b0 l Sg zM137 bud [(2, 205), (0, k)] μ (fun st' μ' => st' = [(0, -1)] ∧ zTJ none μ' ∧ (∀ r, r ≠ 205 → μ' r = μ r) ∧ (∀ c : Int, c ≠ 0 → c ≠ 11 → c ≠ 12 → c ≠ 25 → c ≠ 26 → c ≠ 31 → c ≠ 32 → μ' 205 c = μ 205 c) ∧ μ' 205 11 = 0 ∧ μ' 205 31 = 0 ∧ μ' 205 32 = -1) := by
  refine pm_blk hK zmm137 [] 3 5 [(2, 205), (0, k), (9, 0)] [] (pm_up μ 205 0 0) [sx_bit Wm 205 = true] rfl ⟨hb205, trivial⟩ ?_
  obtain ⟨μ1, eμ1⟩ : ∃ μ', μ' = pm_up μ 205 0 0 := ⟨_, rfl⟩
  rw [← eμ1]
  have hTμ1 : zTJ none μ1 := by rw [eμ1]; exact zT_upn hT zs205_0 rfl (i := 0) (by omega) (by omega) (by omega) (by omega)
  refine pm_blk hK zmm137 [] 3 10 [(2, 205), (0, k), (9, 0)] [] (pm_up μ1 205 31 0) [sx_bit Wm 205 = true] rfl ⟨hb205, trivial⟩ ?_
  obtain ⟨μ2, eμ2⟩ : ∃ μ', μ' = pm_up μ1 205 31 0 := ⟨_, rfl⟩
  rw [← eμ2]
  have hTμ2 : zTJ none μ2 := by rw [eμ2]; exact zT_upn hTμ1 zs205_31 rfl (i := 31) (by omega) (by omega) (by omega) (by omega)
  refine pm_blk hK zmm137 [] 3 15 [(2, 205), (0, k), (9, 0)] [] (pm_up μ2 205 32 ((-1))) [sx_bit Wm 205 = true] rfl ⟨hb205, trivial⟩ ?_
  obtain ⟨μ3, eμ3⟩ : ∃ μ', μ' = pm_up μ2 205 32 ((-1)) := ⟨_, rfl⟩
  rw [← eμ3]
  have hTμ3 : zTJ none μ3 := by rw [eμ3]; exact zT_upn hTμ2 zs205_32 rfl (i := 32) (by omega) (by omega) (by omega) (by omega)
  refine pm_blk hK zmm137 [] 3 20 [(2, 205), (0, k), (9, 0)] [] (pm_up μ3 205 12 0) [sx_bit Wm 205 = true] rfl ⟨hb205, trivial⟩ ?_
  obtain ⟨μ4, eμ4⟩ : ∃ μ', μ' = pm_up μ3 205 12 0 := ⟨_, rfl⟩
  rw [← eμ4]
  have hTμ4 : zTJ none μ4 := by rw [eμ4]; exact zT_upn hTμ3 zs205_12 rfl (i := 12) (by omega) (by omega) (by omega) (by omega)
  refine pm_blk hK zmm137 [] 3 25 [(2, 205), (0, k), (9, 0)] [] (pm_up μ4 205 25 0) [sx_bit Wm 205 = true] rfl ⟨hb205, trivial⟩ ?_
  obtain ⟨μ5, eμ5⟩ : ∃ μ', μ' = pm_up μ4 205 25 0 := ⟨_, rfl⟩
  rw [← eμ5]
  have hTμ5 : zTJ none μ5 := by rw [eμ5]; exact zT_upn hTμ4 zs205_25 rfl (i := 25) (by omega) (by omega) (by omega) (by omega)
  refine pm_blk hK zmm137 [] 3 30 [(2, 205), (0, k), (9, 0)] [] (pm_up μ5 205 26 0) [sx_bit Wm 205 = true] rfl ⟨hb205, trivial⟩ ?_
  obtain ⟨μ6, eμ6⟩ : ∃ μ', μ' = pm_up μ5 205 26 0 := ⟨_, rfl⟩
  rw [← eμ6]
  have hTμ6 : zTJ none μ6 := by rw [eμ6]; exact zT_upn hTμ5 zs205_26 rfl (i := 26) (by omega) (by omega) (by omega) (by omega)
  have g1 : ∀ r, r ≠ 205 → μ6 r = μ r := fun r hr => by rw [eμ6, pm_up_row hr, eμ5, pm_up_row hr, eμ4, pm_up_row hr, eμ3, pm_up_row hr, eμ2, pm_up_row hr, eμ1, pm_up_row hr]
  have g2 : ∀ k : Int, k ≠ 0 → k ≠ 12 → k ≠ 25 → k ≠ 26 → k ≠ 31 → k ≠ 32 → μ6 205 k = μ 205 k := fun k a b c d e f => by rw [eμ6, pm_up_ne d, eμ5, pm_up_ne c, eμ4, pm_up_ne b, eμ3, pm_up_ne f, eμ2, pm_up_ne e, eμ1, pm_up_ne a]
  have v12 : μ6 205 12 = 0 := by rw [eμ6, pm_up_ne (by decide), eμ5, pm_up_ne (by decide), eμ4, pm_up_eq]
  have v31 : μ6 205 31 = 0 := by rw [eμ6, pm_up_ne (by decide), eμ5, pm_up_ne (by decide), eμ4, pm_up_ne (by decide), eμ3, pm_up_ne (by decide), eμ2, pm_up_eq]
  have v32 : μ6 205 32 = -1 := by rw [eμ6, pm_up_ne (by decide), eμ5, pm_up_ne (by decide), eμ4, pm_up_ne (by decide), eμ3, pm_up_eq]
  refine pm_blk hK zmm137 [] 6 36 [(2, 205), (0, k), (0, (-1))] [(0, 3), (0, 0), (0, k), (2, 205)] μ6 [] rfl trivial ?_
  refine pm_call hK zmm137 (158, 0, 129, 3) zM129 (0, 0) [(2, 205), (0, k), (0, 0), (0, 3)] [] rfl rfl rfl rfl ⟨by omega, by rw [zn129]; omega⟩ (zh_isIn hK ⟨by omega, by omega⟩) (fun st1 μc1 hp1 => ?_)
  obtain ⟨rfl, rfl⟩ := hp1
  refine pm_if hK zmm137 .eq 30 69 rfl rfl (fun h0 => ?_) (fun h0 => ?_)
  · have h0 : (if 0 ≤ k ∧ k ≤ 3 then 1 else 0 : Int) = (0 : Int) := h0
    have h0 := zif0 h0
    refine pm_blk hK zmm137 [] 3 74 [(2, 205), (0, k), (0, (-1))] [] (pm_up μ6 205 11 0) [sx_bit Wm 205 = true] rfl ⟨hb205, trivial⟩ ?_
    obtain ⟨μ7, eμ7⟩ : ∃ μ', μ' = pm_up μ6 205 11 0 := ⟨_, rfl⟩
    rw [← eμ7]
    have hTμ7 : zTJ none μ7 := by rw [eμ7]; exact zT_upn hTμ6 zs205_11 rfl (i := 11) (by omega) (by omega) (by omega) (by omega)
    refine pm_blk hK zmm137 [] 2 76 [(2, 205), (0, k), (0, (-1))] [(0, (-1)), (0, (-1))] μ7 [] rfl trivial ?_
    refine pm_icmp hK zmm137 .ne 5 81 rfl rfl (fun h1 => ?_) (fun h1 => ?_)
    · have h1 : ((-1) : Int) ≠ ((-1) : Int) := h1
      exact absurd h1 (by decide)
    · have h1 : ((-1) : Int) = ((-1) : Int) := h1
      refine pm_blk hK zmm137 [] 1 80 [(2, 205), (0, k), (0, (-1))] [(0, (-1))] μ7 [] rfl trivial ?_
      exact pm_iret rfl rfl ⟨rfl, hTμ7, fun r hr => by rw [eμ7, pm_up_row hr]; exact g1 r hr, fun c c0 c11 c12 c25 c26 c31 c32 => by rw [eμ7, pm_up_ne c11]; exact g2 c c0 c12 c25 c26 c31 c32, by rw [eμ7, pm_up_eq], by rw [eμ7, pm_up_ne (by decide)]; exact v31, by rw [eμ7, pm_up_ne (by decide)]; exact v32⟩
  · have h0 : (if 0 ≤ k ∧ k ≤ 3 then 1 else 0 : Int) ≠ (0 : Int) := h0
    have h0 := zif1 h0
    exfalso
    omega
theorem zx_textr (hK : zKK ST) {k x : Int} {μ1 : pm_Mem} (hc : zTxF k μ x μ1) (htl : μ 88 1 = μ 205 11) (htb : ∀ x, 0 ≤ x → x < μ 88 1 → μ 89 x = μ 211 x) (hs0 : μ 3 0 = μ 205 6) (hc0 : μ 3 1 = μ 205 7) (e205 : ∀ c : Int, (c = 6 ∨ c = 7 ∨ c = 11) → μ1 205 c = μ 205 c) (e211 : μ1 211 = μ 211) (hT : zTJ none μ1) (hb205 : sx_bit Wm 205 = true) (hb213 : sx_bit Wm 213 = true) (hb214 : sx_bit Wm 214 = true) (hb215 : sx_bit Wm 215 = true) (hb216 : sx_bit Wm 216 = true) (hb217 : sx_bit Wm 217 = true) (hb218 : sx_bit Wm 218 = true) (hb219 : sx_bit Wm 219 = true) (hb220 : sx_bit Wm 220 = true) (hb221 : sx_bit Wm 221 = true) (hb222 : sx_bit Wm 222 = true) (hb223 : sx_bit Wm 223 = true) (hbd : 10 ≤ bud.1 ∧ 220 ≤ bud.2.1) : zC D Wm ST b0 l Sg zM137 bud [(2, 205), (0, k)] μ1 (fun st' μ2 => st' = [(0, x)] ∧ zTJ none μ2 ∧ zTxe μ μ1 μ2 ∧ μ2 205 5 = μ1 205 5 ∧ ∃ j : Int, zTxH j μ μ1 μ2) := by
  have h26 := (zTxF_c hc).2.2.2.2.1
  obtain ⟨h1, h2f, h3, h5⟩ := hc
  rcases h5 with ⟨hk, rfl, f0, p0, n3⟩ | ⟨hk, K, S, V, N, P, J, t, hx, h5⟩
  · refine zC_mono (zx_textRn hK hk hT hb205 ⟨by omega, by omega⟩) (fun st' μ2 h => ?_)
    obtain ⟨a1, a2, a3, a4, a5, a6, a7⟩ := h
    have a9 : ∀ c : Int, c = 3 ∨ c = 5 ∨ c = 33 ∨ c = 35 ∨ c = 37 → μ2 205 c = μ1 205 c := fun c hc => a4 c (by omega) (by omega) (by omega) (by omega) (by omega) (by omega) (by omega)
    refine ⟨a1, a2, ⟨a5, fun r hr _ => a3 r hr, fun c hc => a4 c (by omega) (by omega) (by omega) (by omega) (by omega) (by omega) (by omega), ⟨by rw [a6, f0], by rw [a7, p0]⟩, fun la e30 e223 => ?_⟩, a9 5 (by omega), -1, ⟨fun q h1 h2 _ => h2f q (by omega) (by omega), fun _ => ⟨by rw [a3 213 (by decide)], zMy_eq (fun r b c => a3 r (by omega))⟩, fun _ => ⟨a9 33 (by omega), fun i _ => by rw [a3 221 (by decide)]⟩, fun _ => ⟨a9 35 (by omega), fun i _ => by rw [a3 222 (by decide)]⟩, fun _ => a9 37 (by omega)⟩, ⟨fun _ _ => ⟨n3, a9 3 (by omega)⟩, fun h => by omega⟩, fun h => by omega⟩
    obtain ⟨w1, w2⟩ := h26 (by omega)
    exact zLa_cg la (by rw [a3 26 (by decide), w1]) (by rw [a3 27 (by decide), w2]) (fun i i0 i1 => by rw [a3 223 (by decide)]; exact e223 i i0 i1) (by rw [a3 3 (by decide), e30]; exact Int.le_refl _)
  · have hL : μ1 205 11 = μ 88 1 := (e205 11 (by omega)).trans htl.symm
    have h5c : (x = ((t : Nat) : Int) ∧ t ≤ 16 ∧ zTxo (zLk k (μ 3 0) (μ 3 1) K V) K J t 0 0 ∧ (k = 3 → zCe3 K V J (μ1 27) t ∧ μ1 26 2 = ((t : Nat) : Int)) ∧ μ1 88 2 = 0 ∧ μ1 88 3 = -1) ∨ (x = -1 ∧ (k = 3 → μ1 26 = μ 26 ∧ μ1 27 = μ 27) ∧ ∃ f q, zTxo (zLk k (μ 3 0) (μ 3 1) K V) K J t f q ∧ f ≠ 0 ∧ zFl S f q μ1) := by
      rcases h5 with ⟨a1, a2, a3, a4, a5, a6, -⟩ | ⟨a1, a2, -, a4⟩
      · exact Or.inl ⟨a1, a2, a3, a4.2.2.2, a5, a6⟩
      · exact Or.inr ⟨a1, fun _ => ⟨a2 26 (by decide) (by decide), a2 27 (by decide) (by decide)⟩, a4⟩
    have hsh : μ1 205 6 = μ 3 0 := (e205 6 (by omega)).trans hs0.symm
    have hcu : μ1 205 7 = μ 3 1 := (e205 7 (by omega)).trans hc0.symm
    have htp : ∀ x, 0 ≤ x → x < μ 88 1 → μ 89 x = μ1 211 x := fun x x0 x1 => by rw [e211]; exact htb x x0 x1
    have hh : k = 0 ∨ k = 1 ∨ k = 2 ∨ k = 3 := by omega
    rcases hh with rfl | rfl | rfl | rfl
    · exact zC_mono (zx_textR0 hK (T := μ 89) (L := μ 88 1) (K := K) (S := S) (V := V) (N := N) (P := P) hT hx htp hL hb205 hb213 hb214 hb215 hb216 hb217 hb218 hb219 hb220 ⟨by omega, by omega⟩) (fun st' μ2 h => by obtain ⟨x', h1, h2, h3⟩ := h; obtain ⟨e, hE⟩ := zTxe_of h26 h5c (zTxr_0 h3); obtain ⟨e5, jj, hj⟩ := zTxH_of hk h2f h5 (zTxG_0 h3); exact ⟨by rw [h1, e], h2, hE, e5, jj, hj⟩)
    · exact zC_mono (zx_textR1 hK (T := μ 89) (L := μ 88 1) (K := K) (S := S) (V := V) (N := N) (P := P) (sh := μ 3 0) (cu := μ 3 1) hT hx htp hL hsh hcu hb205 hb221 ⟨by omega, by omega⟩) (fun st' μ2 h => by obtain ⟨x', h1, h2, h3⟩ := h; obtain ⟨e, hE⟩ := zTxe_of h26 h5c (zTxr_h h3.1 (by decide) zLk_1); obtain ⟨e5, jj, hj⟩ := zTxH_of hk h2f h5 (zTxG_1 h3.1 h3.2); exact ⟨by rw [h1, e], h2, hE, e5, jj, hj⟩)
    · exact zC_mono (zx_textR2 hK (T := μ 89) (L := μ 88 1) (K := K) (S := S) (V := V) (N := N) (P := P) (sh := μ 3 0) (cu := μ 3 1) hT hx htp hL hsh hcu hb205 hb222 ⟨by omega, by omega⟩) (fun st' μ2 h => by obtain ⟨x', h1, h2, h3⟩ := h; obtain ⟨e, hE⟩ := zTxe_of h26 h5c (zTxr_h h3.1 (by decide) zLk_2); obtain ⟨e5, jj, hj⟩ := zTxH_of hk h2f h5 (zTxG_2 h3.1 h3.2); exact ⟨by rw [h1, e], h2, hE, e5, jj, hj⟩)
    · exact zC_mono (zx_textR3 hK (T := μ 89) (L := μ 88 1) (K := K) (S := S) (V := V) (N := N) (P := P) (sh := μ 3 0) (cu := μ 3 1) hT hx htp hL hsh hcu hb205 hb223 ⟨by omega, by omega⟩) (fun st' μ2 h => by obtain ⟨x', h1, h2, h3⟩ := h; obtain ⟨e, hE⟩ := zTxe_of h26 h5c (zTxr_3 h3); obtain ⟨e5, jj, hj⟩ := zTxH_of hk h2f h5 (zTxG_3 h3); exact ⟨by rw [h1, e], h2, hE, e5, jj, hj⟩)
end ZHW
