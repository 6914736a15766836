/-! WRITTEN: the number's check digit, both sides -/
def zdue (s : Int) : Int := (10 - s % 10) % 10
theorem zmt {j : Nat} {M : sx_Me} (h : sx_at2 zMT j = some M) : M ∈ zMT.flatten := sx_at2_mem h
section ZWR
variable {L : Nat} {D : va_G} {b0 : Nat} {l : Launch} {Sg : Nat → Option Nat} {bud : sx_Bu} {nc ns : Nat} {p : Program} {e : Env} {R : Room} {s : State} {m : MethodId} {args : Array Value} {below : List Frame} {meth : Method} {c : Code} {Q : State → Prop} {H : Heap} {locs : List Loc} {ls : Array Slot}
set_option maxRecDepth 100000 in
theorem zc_sum {th : Nat} {x : Int32} (h0 : 0 ≤ x.toInt) : pv_CG D zCl (sxRT L) zAO zTB b0 l zM191 bud Sg H [.ref th, .int x] (fun vo H2 => H2 = H ∧ ∃ a : Int32, vo = some (.int a) ∧ a.toInt = zsum 10 true x.toInt) := by
  intro p e R s m args below meth cc Q ls hF hh hH hl K
  have hR := zkDe_rows zDe191
  obtain ⟨hx, hb, -, -, -⟩ := id hF.1
  have t0 : (Int32.ofInt 0).toInt = 0 := by decide
  have t1 : (Int32.ofInt 1).toInt = 1 := by decide
  have hxb := Int32.toInt_lt x
  refine pv_W hx hb hR 6 7 [(4, .int x), (3, .int (Int32.ofInt 1)), (2, .int (Int32.ofInt 0)), (0, .ref th), (1, .int x)] [] rfl hl (fun ls hl => ?_)
  refine zwm hF.1 10 true (lv_sub hl [3, 4, 2, 1, 0] rfl) (by omega) (by rw [t1]; rfl) h0 (by omega) (by omega) (by omega) (fun a ls' ha hl' => ?_)
  refine pv_W hx hb hR 1 70 [(1, .int x), (2, .int a)] [.int a] rfl hl' (fun ls hl => ?_)
  exact K (some (.int a)) H [] .ireturn 70 ls hH (by rw [hh]; exact va_S.rf) ⟨rfl, a, rfl, by rw [ha, t0]; omega⟩ (Or.inl ⟨rfl, rfl, _, rfl⟩) (pv_row hR rfl)
set_option maxRecDepth 100000 in
theorem zw_right {x a0 i0 : Int32} (hF : sx_Frm D zCl zAO zTB b0 zM98 bud p R s m args meth c) (hb1 : 1 ≤ bud.1) (hb2 : 22 ≤ bud.2.1) (hnc : nc ≤ bud.2.2.1) (hns : ns ≤ bud.2.2.2) (hH : sx_H D zCl (sxRT L) b0 Sg s H) (hV : va_S (fun q => b0 ≤ q) s.heap H locs) (hl : lv_has ls 6 [(0, .int x), (1, .int a0), (2, .int x), (3, .int i0)]) (ha0 : a0.toInt = 0) (hi0 : i0.toInt = 0) (h0 : 0 ≤ x.toInt)
    (K : ∀ (y : Int32) (ls' : Array Slot) (locs' : List Loc), va_S (fun q => b0 ≤ q) s.heap H locs' → y.toInt = zdue (zsum 10 true x.toInt) → lv_has ls' 6 [(0, .int x)] → W p l e R s m args below meth c H locs' nc ns Q (F0 m 73 ls' [.int y])) : W p l e R s m args below meth c H locs nc ns Q (F0 m 6 ls []) := by
  have hR := zkDe_rows zDe98
  obtain ⟨hx, hb, -, -, -⟩ := id hF.1
  have t10 : (b8 10).toInt = 10 := by decide
  refine zwc hF.1 10 hl (by omega) (by omega) h0 (by omega) (by omega) (fun a ls' ha hl' => ?_)
  have hsl := zsum_le 10 true x.toInt h0
  have ha : a.toInt = a0.toInt + zsum 10 true x.toInt := ha
  refine pv_W hx hb hR 3 70 [(0, .int x), (1, .int a)] [.int (b8 10), .int (-a)] rfl hl' (fun ls hl => ?_)
  have hna : (-a).toInt = -a.toInt := Jvm.Kit.i32_neg (by omega)
  refine zcall0 (L := L) (M := zM99) (vs := [.int (-a), .int (b8 10)]) (rest := []) zD5 (68, 1, 99, 2) (by decide +kernel) rfl (by decide +kernel) rfl (zmt (j := 98) rfl) rfl hF rfl (Nat.le_of_ble_eq_true rfl) (Nat.le_of_ble_eq_true rfl) hb1 hb2 (fun h => by cases h) rfl rfl hnc hns (fun h => absurd rfl h) hH hV hl.1 (zc_fmod (by rw [t10]; decide)) (fun vo H2 locs2 k1 k2 k3 => ?_)
  obtain ⟨rfl, y, rfl, hy⟩ := k3
  refine K y ls locs2 k2 ?_ (lv_sub hl [0] rfl)
  rw [hy, t10, hna, ha, ha0]
  unfold zdue
  omega
set_option maxRecDepth 100000 in
theorem zw_written {th r : Nat} {g : sx_Rg} {x x2 x3 : Int32} (hF : sx_Frm D zCl zAO zTB b0 zM190 bud p R s m args meth c) (hb1 : 1 ≤ bud.1) (hb2 : 25 ≤ bud.2.1) (hnc : nc ≤ bud.2.2.1) (hns : ns ≤ bud.2.2.2) (hH : sx_H D zCl (sxRT L) b0 Sg s H) (hV : va_S (fun q => b0 ≤ q) s.heap H locs) (h1 : Sg th = some r) (h2 : sxRT L r = some g) (hg0 : g.1 = 0) (hg1 : g.2.1 = 12) (hl : lv_has ls 5 [(0, .ref th), (1, .int x), (2, .int x2), (3, .int x3)]) (h0 : 0 ≤ x.toInt)
    (K : ∀ (y : Int32) (ls' : Array Slot) (locs' : List Loc), va_S (fun q => b0 ≤ q) s.heap H locs' → y.toInt = zdue (zsum 10 true x.toInt) → lv_has ls' 5 [(4, .int y), (0, .ref th), (1, .int x), (2, .int x2), (3, .int x3)] → W p l e R s m args below meth c H locs' nc ns Q (F0 m 56 ls' [])) : W p l e R s m args below meth c H locs nc ns Q (F0 m 40 ls []) := by
  have hR := zkDe_rows zDe190
  obtain ⟨hx, hb, -, -, -⟩ := id hF.1
  have t10 : (b8 10).toInt = 10 := by decide
  have hsl := zsum_le 10 true x.toInt h0
  refine pv_W hx hb hR 3 44 [(0, .ref th), (1, .int x), (2, .int x2), (3, .int x3)] [.int x, .ref th, .int (b8 10)] rfl hl (fun ls hl => ?_)
  refine zcall0 (L := L) (M := zM191) (vs := [.ref th, .int x]) (rest := [.int (b8 10)]) zD12 (480, 0, 191, 1) (by decide +kernel) rfl (by decide +kernel) rfl (zmt (j := 190) rfl) rfl hF rfl (Nat.le_of_ble_eq_true rfl) (Nat.le_of_ble_eq_true rfl) hb1 hb2 (fun h => by cases h) rfl rfl hnc hns (zrecv (cq := (zR12, zT12, 73)) hF.2.1 hH h1 h2 hg0 (by rw [hg1]; rfl) rfl) hH hV hl.1 (zc_sum h0) (fun vo H2 locs2 k1 k2 k3 => ?_)
  obtain ⟨rfl, a, rfl, ha⟩ := k3
  refine pv_W hx hb hR 6 56 [(4, .int ((b8 10 - (a - a / b8 10 * b8 10)) - (b8 10 - (a - a / b8 10 * b8 10)) / b8 10 * b8 10)), (0, .ref th), (1, .int x), (2, .int x2), (3, .int x3)] [] rfl hl (fun ls hl => ?_)
  refine K _ ls locs2 k2 ?_ hl
  have e1 : (a - a / b8 10 * b8 10).toInt = a.toInt % 10 := by rw [rem_toInt, t10, Int.tmod_eq_emod_of_nonneg (by omega)]
  have e2 : (b8 10 - (a - a / b8 10 * b8 10)).toInt = 10 - a.toInt % 10 := by rw [Jvm.Kit.i32_sub (by rw [t10, e1]; omega) (by rw [t10, e1]; omega), t10, e1]
  rw [rem_toInt, t10, e2, Int.tmod_eq_emod_of_nonneg (by omega), ha]
  rfl
end ZWR
