/-! sx: a run is cut by what one slot of an array of ints holds: for each of some ranges that hold all ints, a run of its own -/
def sx_pc1 (r k : Nat) (q : Int × Int) (st : sx_St) : sx_St := match st with
  | (((E, C, N, U), (F, A, n)), (L, S), nc, ns) => (((E ++ [(0, q.1, q.2)], C, N, U), ((r, k, (0, (0, [(E.length, 1)]))) :: F, A, n)), (L, S), nc, ns)
/-- the ranges follow one another from lo to hi -/
def sx_cov (lo hi : Int) : List (Int × Int) → Bool
  | [] => decide (hi < lo)
  | q :: r => decide (q.1 ≤ lo) && sx_cov (q.2 + 1) hi r
theorem sx_cov_ok {hi x : Int} : ∀ {qs : List (Int × Int)} {lo : Int}, sx_cov lo hi qs = true → lo ≤ x → x ≤ hi → ∃ q ∈ qs, q.1 ≤ x ∧ x ≤ q.2
  | [], lo, h, h1, h2 => by
    simp only [sx_cov, decide_eq_true_eq] at h
    omega
  | q :: r, lo, h, h1, h2 => by
    simp only [sx_cov, Bool.and_eq_true, decide_eq_true_eq] at h
    by_cases hx : x ≤ q.2
    · exact ⟨q, List.mem_cons_self, by omega, hx⟩
    · obtain ⟨y, y1, y2⟩ := sx_cov_ok h.2 (by omega) h2
      exact ⟨y, List.mem_cons_of_mem _ y1, y2⟩
section SX19
variable {FT : Nat → List Int → Int} {D : va_G} {cl : List vw_C} {RT : Nat → Option sx_Rg} {b0 nL : Nat} {p : Program} {l : Launch} {e : Env} {R : Room} {s : State} {m : MethodId} {args : Array Value} {below : List Frame} {meth : Method} {c : Code} {Q : State → Prop} {pc : Nat} {Sg0 : Nat → Option Nat} {ρ0 : List Value}
theorem sx_cut {st : sx_St} {z r k len fz : Nat} {t u : sx_Ty} {qs : List (Int × Int)} (hz : st.1.1.1[z]? = some u) (hu : u.1 = 2 ∧ u.2.1.toNat = r) (hr : RT r = some (1, len, fz, [t])) (hk : k < len) (ht : t.1 = 0) (hc : sx_cov t.2.1 t.2.2 qs = true)
    (h : ∀ q ∈ qs, sx_W FT D cl RT b0 nL p l e R s m args below meth c Q Sg0 ρ0 pc (sx_pc1 r k q st)) : sx_W FT D cl RT b0 nL p l e R s m args below meth c Q Sg0 ρ0 pc st := by
  obtain ⟨⟨⟨E, C, N, U⟩, F, A, n⟩, ⟨L, S⟩, nc, ns⟩ := st
  intro Sg H ρ ls stk locs hle hpre hP
  obtain ⟨hH, hG, hF, hV⟩ := hP
  have hE : sx_env Sg E ρ := hG.1
  have hlt : z < ρ.length := by rw [hE.1]; exact (List.getElem?_eq_some_iff.mp hz).1
  have hρ : ρ[z]? = some ρ[z] := List.getElem?_eq_getElem hlt
  have hok := hE.2 z u _ hz hρ
  have h2 : ∃ a, Sg a = some r := by
    rcases hok with ⟨k1, -⟩ | ⟨k1, -⟩ | ⟨-, a, -, ha⟩ | ⟨k1, -⟩
    · omega
    · omega
    · exact ⟨a, by rw [← hu.2]; exact ha⟩
    · omega
  obtain ⟨a, ha⟩ := h2
  obtain ⟨g, g1, ⟨cell, g2, g3, g4⟩, -⟩ := hH a r ha
  rw [hr] at g1
  cases g1
  obtain ⟨v, t', w1, w2, w3⟩ := g4 k hk
  have w2 : some t = some t' := w2
  cases w2
  rcases w3 with ⟨-, x, rfl, x1, x2⟩ | ⟨k1, -⟩ | ⟨k1, -⟩ | ⟨k1, -⟩
  · obtain ⟨q, q1, q2, q3⟩ := sx_cov_ok hc x1 x2
    have hG2 := sx_G_ext (t := (0, q.1, q.2)) (v := .int x) hG (Or.inl ⟨rfl, x, rfl, q2, q3⟩)
    have hs : (ρ ++ [Value.int x])[E.length]? = some (.int x) := sx_iv_new hE.1
    obtain ⟨m1, m2, m3, m4, m5, m6⟩ := hG2
    have hav : sx_av (ρ ++ [.int x]) (0, (0, [(E.length, 1)])) (.int x) := sx_int_av (sx_sym_ok (by unfold sx_iv; rw [hs]))
    have hG3 : sx_G FT D RT Sg H (ρ ++ [.int x]) ((E ++ [(0, q.1, q.2)], C, N, U), ((r, k, (0, (0, [(E.length, 1)]))) :: F, A, n)) := by
      refine ⟨m1, m2, m3, m4, fun y hy => ?_, m6⟩
      rcases List.mem_cons.mp hy with rfl | hy
      · exact ⟨a, r, _, cell, .int x, rfl, ha, hr, g2, hk, w1, hav⟩
      · exact m5 y hy
    exact h q q1 Sg H (ρ ++ [.int x]) ls stk locs hle (hpre.trans (List.prefix_append ρ _)) ⟨hH, hG3, sx_Fr_ext hF, hV⟩
  · omega
  · omega
  · omega
end SX19
