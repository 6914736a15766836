/-! sx, objects and arrays of references made -/
section SX11
variable {FT : Nat → List Int → Int} {D : va_G} {cl : List vw_C} {RT : Nat → Option sx_Rg} {b0 : sx_B} {nL : Nat} {p : Program} {l : Launch} {e : Env} {R : Room} {s : State} {m : MethodId} {args : Array Value} {below : List Frame} {meth : Method} {c : Code} {Q : State → Prop}
  {Sg0 : Nat → Option Nat} {ρ0 : List Value} {pc nc ns : Nat} {cc : ByteArray} {own : String} {Ts : List Cond} {Sg : Nat → Option Nat} {H : Heap} {ρ : List Value} {ls : Array Slot} {stk : List Value} {locs : List Loc} {E : List sx_Ty} {C N : List sx_LF} {U : List (Nat × List sx_LF × Nat)}
  {FA : sx_FA} {L : List (Nat × sx_AV)} {S : List sx_AV} {i : Instr} {n : Nat}
noncomputable def sx_newo (NL : List (Nat × Nat × Nat)) (CJ : List (List Nat)) (RT : Nat → Option sx_Rg) (rc rs : Nat) (idx : Nat) (E : List sx_Ty) (C N : List sx_LF) (U : List (Nat × List sx_LF × Nat)) (FA : sx_FA) (L : List (Nat × sx_AV)) (S : List sx_AV) (nc ns : Nat) : Option sx_St := match sx_fnd (fun q => Nat.beq q.1 idx) NL, RT (FA.2.2) with
  | some q, some g => match CJ[q.2.1]? with
    | some js => match sx_defs FA.2.2 0 js g.2.2.2 with
      | some F2 => if g.1 = 0 ∧ g.2.1 = q.2.1 ∧ nc + 1 ≤ rc ∧ ns + q.2.2 ≤ rs ∧ Nat.ble js.length 1048576 = true then
          some (((E ++ [(2, (FA.2.2 : Int), 0)], C, N, U), (F2 ++ FA.1, [] ++ FA.2.1, FA.2.2 + 1)), (L, (2, ((E.length : Int), [])) :: S), nc + 1, ns + q.2.2) else none
      | none => none
    | none => none
  | _, _ => none
theorem sx_newo_ok {NL : List (Nat × Nat × Nat)} {CJ : List (List Nat)} {rc rs idx : Nat} {st' : sx_St} (hC : sx_Cx p s m args c cc nL own Ts) (hKn : va_K D cl [] s) (hcl : sx_clok cl Ts) (hCJ : sx_cjok cl CJ) (hNL : ∀ q ∈ NL, sx_nlk cl own args s q) (hb0 : sx_bs b0 s) (hR : R.cells = rc ∧ R.slots = rs) (h : sx_newo NL CJ RT rc rs idx E C N U FA L S nc ns = some st') (hd : decode cc pc = .ok (.new idx, 3))
    (hP : sx_Pt FT D cl RT b0 nL s Sg H ρ ((E, C, N, U), FA) L S ls stk locs) (hle : sx_le Sg0 Sg) (hpre : ρ0 <+: ρ) (hW : sx_W FT D cl RT b0 nL p l e R s m args below meth c Q Sg0 ρ0 (pc + 3) st') : W p l e R s m args below meth c H locs nc ns Q (F0 m pc ls stk) := by
  unfold sx_newo at h
  split at h
  · rename_i q g hq hg
    have hq1 := sx_fnd_mem hq
    have hq2 := sx_fnd_some hq
    simp at hq2
    subst hq2
    split at h
    · rename_i js hjs
      split at h
      · rename_i F2 hF2
        split at h
        · rename_i hc
          obtain ⟨c1, c2, c3, c4, c20⟩ := hc
          cases h
          obtain ⟨r, hr, hcl1, hins, hini⟩ := hNL q hq1
          obtain ⟨hw1, hnm, ty, hty⟩ := hcl r (List.mem_of_getElem? hr)
          obtain ⟨hjl, hjc⟩ := hCJ q.2.1 r js hr hjs
          obtain ⟨d1, d2, d3⟩ := sx_defs_ok js g.2.2.2 0 F2 hF2
          obtain ⟨hx, hb, -, hown, hts⟩ := hC
          have hKc := hKn.1 q.2.1 r hr
          have hwd : sx_wd g = r.2.2 := by unfold sx_wd; rw [if_pos c1, ← d1, hjl]
          have hfc : s.vm.findClass r.1 = some (D.1 q.2.1) := hKc.2.1
          refine W.newcK hx hb hown hcl1 hins hini rfl hd (by omega) (by omega) hfc rfl fun H' kC hkC e1 e2 e3 => ?_
          obtain ⟨cell, o1, o2, o3, o4⟩ := u_born ty hts hw1 hKc hkC e1 hty
          have jcty : ∀ k j, k < r.2.2 → js[k]? = some j → sx_jc j (ty k) := fun k j hk hj => by
            obtain ⟨ty', t1, t2⟩ := hjc k j hj
            rw [hty k hk] at t1
            cases t1
            exact t2
          refine sx_made (F2 := F2) (A2 := []) hP hle hpre hb0 hg o1 e2 e3 (Or.inl ⟨c1, by rw [c2]; exact o2, o3⟩) (fun k hk => ?_) (fun x hx => ?_) (fun x hx => by simp at hx) hP.2.2.1.2.2.2 hW
          · have hk2 : k < r.2.2 := by rw [← hwd]; exact hk
            have hj : js[k]? = some js[k] := List.getElem?_eq_getElem (by omega)
            have ht : g.2.2.2[k]? = some g.2.2.2[k] := List.getElem?_eq_getElem (by omega)
            obtain ⟨a, ha⟩ := d3 k _ _ hj ht
            exact ⟨_, _, by rw [sx_sl0 c1, c2]; exact o4 k hk2, by unfold sx_ft; rw [if_pos c1]; exact ht, (sx_def_ok (ρ := ρ) ha (jcty k _ hk2 hj)).2⟩
          · obtain ⟨f1, i, j, t, f2, f3, f4, f5⟩ := d2 x hx
            have hi : x.2.1 = i := by omega
            have hlt : i < js.length := (List.getElem?_eq_some_iff.mp f3).1
            have hi2 : i < r.2.2 := by omega
            refine ⟨f1, Nat.blt_eq.mpr (by have := Nat.le_of_ble_eq_true c20; omega), by rw [hi, hwd]; exact hi2, defaultValue (ty i), by rw [hi, sx_sl0 c1, c2]; exact o4 i hi2, (sx_def_ok (Sg := Sg) f5 (jcty i j hi2 f3)).1⟩
        · cases h
      · cases h
    · cases h
  · cases h
def sx_nulls (z : Nat) : Nat → List (Nat × Nat × sx_AV)
  | 0 => []
  | k + 1 => (z, k, (3, (0, []))) :: sx_nulls z k
theorem sx_nulls_ok {z : Nat} : ∀ (n : Nat) (x : Nat × Nat × sx_AV), x ∈ sx_nulls z n → x.1 = z ∧ x.2.1 < n ∧ x.2.2 = (3, (0, []))
  | 0, x, h => by simp [sx_nulls] at h
  | n + 1, x, h => by
    simp only [sx_nulls] at h
    rcases List.mem_cons.mp h with rfl | h
    · exact ⟨rfl, Nat.lt_succ_self n, rfl⟩
    · obtain ⟨h1, h2, h3⟩ := sx_nulls_ok n x h
      exact ⟨h1, by omega, h3⟩
noncomputable def sx_newq (AL : List (Nat × Nat)) (RT : Nat → Option sx_Rg) (rc rs : Nat) (idx : Nat) (E : List sx_Ty) (C N : List sx_LF) (U : List (Nat × List sx_LF × Nat)) (FA : sx_FA) (L : List (Nat × sx_AV)) (S : List sx_AV) (nc ns : Nat) : Option sx_St := match S with
  | b :: S' => match sx_fnd (fun q => Nat.beq q.1 idx) AL, RT (FA.2.2) with
    | some q, some g => if b.1 = 0 ∧ b.2.2 = [] ∧ b.2.1 = (g.2.1 : Int) ∧ g.1 = 3 ∧ g.2.2.1 = q.2 ∧ (g.2.2.2[0]? = some (3, 0, 0) ∧ g.2.2.2.length = 1) ∧ g.2.1 * 4 ≤ 536870912 ∧ g.2.1 < 2147483648 ∧ nc + 1 ≤ rc ∧ ns + g.2.1 ≤ rs ∧ Nat.ble g.2.1 1048576 = true then
          some (((E ++ [(2, (FA.2.2 : Int), 0)], C, N, U), (sx_nulls FA.2.2 g.2.1 ++ FA.1, [] ++ FA.2.1, FA.2.2 + 1)), (L, (2, ((E.length : Int), [])) :: S'), nc + 1, ns + g.2.1) else none
    | _, _ => none
  | _ => none
theorem sx_newq_ok {AL : List (Nat × Nat)} {rc rs idx : Nat} {st' : sx_St} (hC : sx_Cx p s m args c cc nL own Ts) (hAL : ∀ q ∈ AL, sx_alk cl own args s q) (hb0 : sx_bs b0 s) (hR : R.cells = rc ∧ R.slots = rs) (h : sx_newq AL RT rc rs idx E C N U FA L S nc ns = some st') (hd : decode cc pc = .ok (.anewarray idx, 3))
    (hP : sx_Pt FT D cl RT b0 nL s Sg H ρ ((E, C, N, U), FA) L S ls stk locs) (hle : sx_le Sg0 Sg) (hpre : ρ0 <+: ρ) (hW : sx_W FT D cl RT b0 nL p l e R s m args below meth c Q Sg0 ρ0 (pc + 3) st') : W p l e R s m args below meth c H locs nc ns Q (F0 m pc ls stk) := by
  unfold sx_newq at h
  split at h
  · rename_i b S'
    split at h
    · rename_i q g hq hg
      have hq1 := sx_fnd_mem hq
      have hq2 := sx_fnd_some hq
      simp at hq2
      subst hq2
      split at h
      · rename_i hc
        obtain ⟨c1, c2, c3, c4, c5, c6, c7, c8, c9, c10, c20⟩ := hc
        cases h
        obtain ⟨v, t1, rfl, h1, hs1⟩ := sx_stk_cons hP.2.2.1.2.2.2
        obtain ⟨bt, bf⟩ := b
        have c1 : bt = 0 := c1
        subst c1
        obtain ⟨x, rfl, hf⟩ := sx_av_int h1
        have hxn : x.toInt = (g.2.1 : Int) := by rw [sx_lf_const hf c2]; exact c3
        have hxc : x.toNatClampNeg = g.2.1 := by have : x.toNatClampNeg = x.toInt.toNat := rfl
                                                 omega
        have hx0 : ¬ x < 0 := fun q => by rw [Int32.lt_iff_toInt_lt] at q; have : (0 : Int32).toInt = 0 := by decide
                                          omega
        have g0 : g.1 ≠ 0 := by omega
        have hwd : sx_wd g = g.2.1 := by unfold sx_wd; rw [if_neg g0]
        obtain ⟨r, hr, hcl1, hao⟩ := hAL q hq1
        obtain ⟨hx, hb, -, hown, hts⟩ := hC
        have hty : sx_aty cl g = .object r.1 := by unfold sx_aty sx_cn; rw [if_neg (by omega), if_neg (by omega), c5, hr]
        refine W.anew hx hb hown hcl1 (va_AO.use hao) rfl hd rfl hx0 (by rw [hxc]; exact c7) (by omega) (by rw [hxc]; omega) fun cA kA comp f1 f2 f3 f4 => ?_
        rw [hxc]
        generalize hH1 : H.push ({ cls := cA, slots := Array.replicate g.2.1 .null, vm := .none } : Cell) = H1
        have z1 : H1.size = H.size + 1 := by rw [← hH1, Array.size_push]
        have e1 : H1[H.size]? = some (arrV cA g.2.1 (fun _ => .null)) := by rw [← hH1, Array.getElem?_push_size, ← arrV_new]
        have o1 : ∀ q : Nat, q < H.size → H1[q]? = H[q]? := fun q hq => by rw [← hH1, Array.getElem?_push, if_neg (Nat.ne_of_lt hq)]
        refine sx_made (F2 := sx_nulls FA.2.2 g.2.1) (A2 := []) hP hle hpre hb0 hg e1 z1 o1 (Or.inr ⟨g0, ?_, ?_, ?_, ?_, ?_⟩) (fun k hk => ?_) (fun y hy => ?_) (fun x hx => by simp at hx) hs1 hW
        · rw [hty]; exact ⟨(fun k h => by cases h), kA, f2, comp, f3⟩
        · exact fun h => by cases h
        · rw [arrV_size]; exact Nat.le_refl _
        · rw [arrV_size]
        · intro _; rw [hty]; exact ⟨kA, comp, f2, f3, f4, f1⟩
        · rw [hwd] at hk
          exact ⟨.null, (3, 0, 0), by rw [sx_sl1 g0]; exact arrV_read _ _ hk, sx_ft1 g0 c6.2 c6.1, Or.inr (Or.inr (Or.inr ⟨rfl, Or.inl rfl⟩))⟩
        · obtain ⟨y1, y2, y3⟩ := sx_nulls_ok g.2.1 y hy
          exact ⟨y1, Nat.blt_eq.mpr (by have := Nat.le_of_ble_eq_true c20; omega), by rw [hwd]; exact y2, .null, by rw [sx_sl1 g0]; exact arrV_read _ _ y2, by rw [y3]; exact Or.inr (Or.inr (Or.inr ⟨rfl, rfl⟩))⟩
      · cases h
    · cases h
  · cases h
end SX11
