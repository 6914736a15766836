/-! a call out of the law's frame of a method that was walked, its answer dropped -/
def zEQ (μ : pm_Mem) : Prop := μ 33 1 = μ 35 1 ∧ μ 76 1 = μ 78 1
section LH
variable {D : va_G} {ST : List (String × String × String × Nat)} {b0 : sx_B} {l : Launch} {B0 : Nat → Prop} {Sg : Nat → Option Nat} {p : Program} {e : Env} {R : Room} {s : State} {m : MethodId} {args : Array Value} {below : List Frame} {meth : Method} {c : Code} {b ax am L : Nat} {xs : Nat → Int32} {nc ns : Nat} {Q : State → Prop} {H : Heap} {locs : List Loc} {ls : Array Slot} {pc : Nat}
theorem zl_h (C : zLC D ST b0 l B0 Sg p R s m args meth c b ax am L xs nc ns) {Wm bf bl : Nat} (q : sx_Ml) (M' : sx_Me) (as : List pm_V) {vs : List Value} {Eq : pm_Mem → Prop} (hX : zLX D b0 B0 Sg s H locs) (hC : ∀ μ, zTJ μ → zEQ μ → zC D Wm ST (sx_bW zRT2 Wm B0 Sg, pm_J D zRT2 Sg zGm zJ) l Sg M' (bf, bl, 0, 0) as μ (fun st' μ' => (∃ x, st' = [(0, x)]) ∧ zTJ μ' ∧ Eq μ'))
    (hE : ∀ μ μ' : pm_Mem, zEQ μ → Eq μ' → (∀ (r : Nat) (g : sx_Rg) (k : Nat) (t : sx_Ty), sx_bit Wm r = false → r < zNR → zRT2 r = some g → g.1 ≤ 2 → k < sx_wd g → sx_ft g k = some t → t.1 ≤ 1 → μ' r (k : Int) = μ r (k : Int)) → zEQ μ')
    (hq : sx_fnd (fun x => Nat.beq x.1 q.1) zD13.2.2.1 = some q) (hrow : sx_row zM0.2.1 pc = some (pc, sx_inv q.2.1 q.1, 3)) (hM' : sx_at2 zMT q.2.2.1 = some M') (hc : pm_cok zRT2 q M' as [] = true) (hb : bf + 1 ≤ 2048 ∧ 19 + M'.1.2.2.1 + bl ≤ 84000) (gv : pm_S Sg as vs) (hls : ls.size = 4) (hp : sx_row zM0.2.1 (pc + 3) = some (pc + 3, .pop, 1))
    (kk : ∀ (H2 : Heap) (locs2 : List Loc), zLX D b0 B0 Sg s H2 locs2 → W p l e R s m args below meth c H2 locs2 nc ns Q (F0 m (pc + 4) ls [])) :
    W p l e R s m args below meth c H locs nc ns Q (F0 m pc ls vs.reverse) := by
  obtain ⟨hK, hw, hB, hB0, hCt, hF, hT, hL, hax, ham, hnc, hns⟩ := C
  obtain ⟨μ, hS, hV, he, he2⟩ := hX
  obtain ⟨hx, hb', -, -, -⟩ := id hF.1
  have := zl_hd (e := e) (below := below) (Q := Q) (rest := []) hK hw hB hB0 q M' as (hC μ hS.2.2 ⟨he, he2⟩) hF hq hrow hM' hc hb gv (Nat.zero_le _) hnc hns hls hS hV (fun st' μ' h => h.2.1) (fun vo st' μ' H2 locs2 hP hst hS2 hV2 hfr => ?_)
  · rw [List.append_nil] at this
    exact this
  · obtain ⟨⟨x, rfl⟩, -, hEq⟩ := hP
    obtain ⟨v, t, e1, k1, k2⟩ := pm_S_cons hst
    obtain rfl := pm_S_nil k2
    obtain ⟨y, rfl, -⟩ := pm_v_int k1 rfl
    rw [e1]
    refine lv_pop hx hb' (pv_row zMk0.1 hp) rfl ?_
    obtain ⟨n1, n2⟩ := hE μ μ' ⟨he, he2⟩ hEq hfr
    exact kk H2 locs2 ⟨μ', hS2, hV2, n1, n2⟩
theorem zEQ_fr {V : Nat} (hn : (zfrc V 33 1 && zfrc V 35 1 && zfrc V 76 1 && zfrc V 78 1) = true) : ∀ μ μ' : pm_Mem, zEQ μ → True → (∀ (r : Nat) (g : sx_Rg) (k : Nat) (t : sx_Ty), sx_bit V r = false → r < zNR → zRT2 r = some g → g.1 ≤ 2 → k < sx_wd g → sx_ft g k = some t → t.1 ≤ 1 → μ' r (k : Int) = μ r (k : Int)) → zEQ μ' := fun μ μ' h _ hfr => by
  obtain ⟨n1, n2, n3, n4⟩ := zNs_fr hfr hn
  exact ⟨by rw [n1, n2]; exact h.1, by rw [n3, n4]; exact h.2⟩
end LH
