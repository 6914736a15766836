/-! hook 111: from the executor to a walk and back -/
section M3
variable {FT : Nat → List Int → Int} {D : va_G} {ST : List (String × String × String × Nat)} {l : Launch} {B0 : Nat → Prop} {Sg : Nat → Option Nat} {V : Nat}
theorem zm111 (hw : sx_Wd zNR zRT2 B0 Sg) (hK : zKK ST) {bud : sx_Bu} {E : List sx_Ty} {C N : List sx_LF} {U : List (Nat × List sx_LF × Nat)} {FA : sx_FA} {L : List (Nat × sx_AV)} {a : sx_AV} (ha : sx_lk L 0 = some a) (h1 : sx_lk L 1 = some (0, (0, []))) (hc : (sx_carg zRT2 E C a (2, 205, 0) && sx_bit V 206 && Nat.ble FA.2.2 250 && Nat.ble 1 bud.1 && Nat.ble 24 bud.2.1) = true)
    {p : Program} {e : Env} {R : Room} {s : State} {m : MethodId} {args : Array Value} {below : List Frame} {meth : Method} {c : Code} {Q : State → Prop} {Sg0 : Nat → Option Nat} {ρ0 : List Value} (hF : sx_Frm D zCl (zAS ST) zTB (sx_bW zRT2 V B0 Sg, pm_J D zRT2 Sg zGm zJ) zM155 bud p R s m args meth c)
    (hW : sx_W FT D zCl (sx_fz V zRT2) (sx_bW zRT2 V B0 Sg, pm_J D zRT2 Sg zGm zJ) 5 p l e R s m args below meth c Q Sg0 ρ0 90 (((E, C, N, U), ([], [], FA.2.2)), ([(0, a)], []), 0, 0)) : sx_W FT D zCl (sx_fz V zRT2) (sx_bW zRT2 V B0 Sg, pm_J D zRT2 Sg zGm zJ) 5 p l e R s m args below meth c Q Sg0 ρ0 15 (((E, C, N, U), FA), (L, []), 0, 0) := by
  intro Sg1 H ρ ls stk locs hle hpre hP
  obtain ⟨hH, hG, hFr, hV⟩ := hP
  simp only [Bool.and_eq_true] at hc
  obtain ⟨⟨⟨⟨c1, c2⟩, c3⟩, c4⟩, c5⟩ := hc
  have c3 := Nat.le_of_ble_eq_true c3
  have hJ := hV.2.1
  obtain rfl : Sg1 = Sg := sx_wd_eq hw.2.1 hJ.1 (fun q r hq => Nat.lt_of_lt_of_le (hG.2.2.2.2.2.2 q r hq) c3) hH
  obtain ⟨μ, m1, m2, m3⟩ := pm_down hH
  have hT : zTJ μ := ⟨zTy_of hw m3, pm_J_get hJ m2⟩
  obtain ⟨v0, u1, u2⟩ := hFr.2.2.1 _ (sx_lk_mem ha)
  obtain ⟨v1, w1, w2⟩ := hFr.2.2.1 _ (sx_lk_mem h1)
  have hok := sx_carg_ok c1 hG.1 hG.2.1 (sx_H_base (b1 := (fun _ => True, fun _ _ => True)) (fun _ => trivial) hH) u1
  obtain ⟨q0, rfl, hq0⟩ : ∃ q0, v0 = .ref q0 ∧ Sg1 q0 = some 205 := by
    rcases hok with ⟨k, -⟩ | ⟨k, -⟩ | ⟨-, q, k1, k2⟩ | ⟨k, -⟩
    · cases k
    · cases k
    · exact ⟨q, k1, k2⟩
    · cases k
  obtain ⟨x1, rfl, hx1⟩ := sx_av_int w1
  have hx1 : x1.toInt = 0 := sx_lf_const hx1 rfl
  obtain rfl : stk = [] := by
    have := hFr.2.2.2
    cases stk with
    | nil => rfl
    | cons v r => exact this.elim
  have hb : ∀ b r g, Sg1 b = some r → sx_fz V zRT2 r = some g → sx_mut g = true → (sx_bW zRT2 V B0 Sg1) b := fun b r g hb hg hm => by
    obtain ⟨g', k1, -, k5, -⟩ := hH b r hb
    rw [hg] at k1
    cases k1
    exact k5 hm
  have hL : pm_L Sg1 5 [(2, 205), (0, 0), (9, 0), (9, 0), (9, 0)] ls := by
    refine ⟨hFr.1, hFr.2.1, fun i b hi hb9 => ?_⟩
    match i with
    | 0 =>
      obtain rfl : (2, 205) = b := by simpa using hi
      exact ⟨.ref q0, Or.inr (Or.inr (Or.inl ⟨rfl, q0, rfl, hq0⟩)), u2⟩
    | 1 =>
      obtain rfl : (0, 0) = b := by simpa using hi
      exact ⟨.int x1, Or.inl ⟨rfl, x1, rfl, hx1⟩, w2⟩
    | 2 =>
      obtain rfl : (9, 0) = b := by simpa using hi
      exact absurd rfl hb9
    | 3 =>
      obtain rfl : (9, 0) = b := by simpa using hi
      exact absurd rfl hb9
    | 4 =>
      obtain rfl : (9, 0) = b := by simpa using hi
      exact absurd rfl hb9
    | i + 5 => simp at hi
  have key := zl_gb (D := D) (Wm := V) (ST := ST) (b0 := (sx_bW zRT2 V B0 Sg1, pm_J D zRT2 Sg1 zGm zJ)) (l := l) (Sg := Sg1) (bud := bud) (X := fun pc lv st μ => pc = 90 ∧ lv = [(2, 205), (9, 0), (9, 0), (9, 0), (9, 0)] ∧ st = [] ∧ zTJ μ) hK c2 (fun μ hT => pm_exit ⟨rfl, rfl, rfl, hT⟩) ⟨Nat.le_of_ble_eq_true c4, Nat.le_of_ble_eq_true c5⟩ _ (k := 0) (z := 0) rfl rfl (by omega) hT
  refine key p e R s m args below meth c Q H locs ls [] hF ⟨m1, m2, hV.1, hL, trivial⟩ (fun pc' lv' st' μ' H' locs' ls' stk' hX hP' => ?_)
  obtain ⟨rfl, rfl, rfl, hT'⟩ := hX
  obtain ⟨p1, p2, p3, p4, p5⟩ := hP'
  have hH' : sx_H D zCl (sx_fz V zRT2) (sx_bW zRT2 V B0 Sg1, pm_J D zRT2 Sg1 zGm zJ) Sg1 s H' := pm_narrow p1 p2 (zTy_T hw hT'.1) (Vm.Alike.refl s.vm) hb
  obtain ⟨v2, y1, y2⟩ := p4.2.2 0 (2, 205) rfl (by decide)
  obtain ⟨q2, rfl, hq2⟩ := pm_v_ref y1 rfl
  obtain rfl : q2 = q0 := sx_uniq hH' hq0 hq2
  obtain rfl := pm_S_nil p5
  refine hW Sg1 H' ρ ls' [] locs' hle hpre ⟨hH', ⟨hG.1, hG.2.1, hG.2.2.1, hG.2.2.2.1, fun f hf => absurd hf List.not_mem_nil, fun f hf => absurd hf List.not_mem_nil, hG.2.2.2.2.2.2⟩, ⟨p4.1, p4.2.1, fun q hq => ?_, trivial⟩, ⟨p3, pm_J_mk hw.2.1 zGm_lt zJ_loc p1 p2 hT'.2, hV.2.2⟩⟩
  obtain rfl := List.mem_singleton.mp hq
  exact ⟨.ref q2, u1, y2⟩
end M3
