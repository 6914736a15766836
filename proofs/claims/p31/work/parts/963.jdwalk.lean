/-! length, charAt, indexOf of a constant text -/
def zSTk (ST : List (String × String × String × Nat)) : Prop := ("java/lang/String", "COMPACT_STRINGS", "Z", 1) ∈ ST ∧ ("jdk/internal/util/Preconditions", "SIOOBE_FORMATTER", "Ljava/util/function/BiFunction;", 0) ∈ ST
def zTxa (ST : List (String × String × String × Nat)) (a : Nat) (tx : String) : Prop := ∃ own d k, (own, tx, d, a) ∈ ST ∧ sx_sk d = k + 3
/-- the char at a place -/
def zch (tx : String) (k : Int32) : Int32 := ((((sx_tb tx).getD k.toNatClampNeg 0) &&& (Int16.ofInt 255).toInt32).toUInt32 % 65536).toInt32
section JW
variable {D : va_G} {ST : List (String × String × String × Nat)} {b0 : sx_B} {l : Launch} {H : Heap} {a : Nat} {tx : String}
abbrev zAS (ST : List (String × String × String × Nat)) : sx_Ao := (["ArcadePoles$Arcade"], ST)
theorem zTxa_tx {M : sx_Me} {bud : sx_Bu} {p : Program} {R : Room} {s : State} {m : MethodId} {args : Array Value} {meth : Method} {c : Code} (hF : sx_Frm D zCl (zAS ST) zTB b0 M bud p R s m args meth c) (h : zTxa ST a tx) : sx_tx a tx b0.1 s s.heap := by
  obtain ⟨own, d, k, h1, h2⟩ := h
  exact (sx_ZS_tx hF.2.2.2.2.2.2.2.2.2.2 h1 h2).2
theorem jc_coder (hk : zSTk ST) (ha : zTxa ST a tx) : jd_C D (zAS ST) b0 l zJm1 0 0 (fun _ => True) H [.ref a] (fun vo => vo = some (.int 0)) := by
  intro p e R s m args below meth c Q ls hF hh _ hl K
  subst hh
  obtain ⟨hx, hb, hml, hown, hts⟩ := id hF.1
  have hR := zJk1.1
  have htx := zTxa_tx hF ha
  refine va_gets hx hb (sx_ZS_bo hF.2.2.2.2.2.2.2.2.2.2 hk.1 rfl) va_S.rf hown (hts _ zJf_38) (fun x hx => hx) (pv_row hR rfl) ?_
  refine pv_if hF.1 hR .eq 10 13 rfl rfl (fun h => absurd (show (Int32.ofNat 1).toInt = 0 from h) (by decide)) (fun _ => ?_)
  refine pv_W hx hb hR 1 7 [(0, .ref a)] [.ref a] rfl hl (fun ls hl => ?_)
  refine vk_getf hx hb htx.2.1 va_S.rf hown (hts _ zJf_15) (fun x hx => hx) (pv_row hR rfl) ?_
  refine pv_W hx hb hR 1 14 [(0, .ref a)] [.int 0] rfl hl (fun ls hl => ?_)
  exact K (some (.int 0)) .ireturn 14 ls [] va_S.rf rfl (Or.inr ⟨.byte, 0, rfl, rfl, rfl, rfl⟩) (pv_row hR rfl)
theorem jc_lat (hk : zSTk ST) (ha : zTxa ST a tx) : jd_C D (zAS ST) b0 l zJm2 0 0 (fun _ => True) H [.ref a] (fun vo => vo = some (.int (Int32.ofInt 1))) := by
  intro p e R s m args below meth c Q ls hF hh _ hl K
  subst hh
  obtain ⟨hx, hb, hml, hown, hts⟩ := id hF.1
  have hR := zJk2.1
  have htx := zTxa_tx hF ha
  refine va_gets hx hb (sx_ZS_bo hF.2.2.2.2.2.2.2.2.2.2 hk.1 rfl) va_S.rf hown (hts _ zJf_38) (fun x hx => hx) (pv_row hR rfl) ?_
  refine pv_if hF.1 hR .eq 14 17 rfl rfl (fun h => absurd (show (Int32.ofNat 1).toInt = 0 from h) (by decide)) (fun _ => ?_)
  refine pv_W hx hb hR 1 7 [(0, .ref a)] [.ref a] rfl hl (fun ls hl => ?_)
  refine vk_getf hx hb htx.2.1 va_S.rf hown (hts _ zJf_15) (fun x hx => hx) (pv_row hR rfl) ?_
  refine pv_if hF.1 hR .ne 7 17 rfl rfl (fun h => absurd (show (0 : Int32).toInt ≠ 0 from h) (by decide)) (fun _ => ?_)
  refine pv_W hx hb hR 2 18 [(0, .ref a)] [.int (Int32.ofInt 1)] rfl hl (fun ls hl => ?_)
  exact K (some (.int (Int32.ofInt 1))) .ireturn 18 ls [] va_S.rf rfl (Or.inr ⟨.boolean, Int32.ofInt 1, rfl, rfl, by decide, rfl⟩) (pv_row hR rfl)
theorem jr {s : State} (h : sx_tx a tx b0.1 s s.heap) (cls : String) (hc : cls = "java/lang/String") (As : List Value) {k : Nat} : k ≠ 1 → ∃ b Bs, (Value.ref a :: As) = .ref b :: Bs ∧ ∃ cellB : Cell, s.heap[b]? = some cellB ∧ cellB.vm.isStatics = false ∧ s.vm.findClass cls = some cellB.cls := by
  subst hc
  intro _
  obtain ⟨cell, h1, h2, h3, -⟩ := h.1
  exact ⟨a, As, rfl, cell, h1, h2, h3⟩
theorem jc_len (hk : zSTk ST) (ha : zTxa ST a tx) : jd_C D (zAS ST) b0 l zJm0 1 20 (fun _ => True) H [.ref a] (fun vo => vo = some (.int (Int32.ofNat (sx_tb tx).length))) := by
  intro p e R s m args below meth c Q ls hF hh _ hl K
  subst hh
  obtain ⟨hx, hb, hml, hown, hts⟩ := id hF.1
  have hR := zJk0.1
  have htx := zTxa_tx hF ha
  obtain ⟨x1, x2, V, x3, x4⟩ := id htx
  refine pv_W hx hb hR 1 1 [(0, .ref a)] [.ref a] rfl hl (fun ls hl => ?_)
  refine vk_getf hx hb x3 va_S.rf hown (hts _ zJf_9) (fun x hx => hx) (pv_row hR rfl) ?_
  refine va_tlen hx hb x4 va_S.rf rfl (pv_row hR rfl) ?_
  refine pv_W hx hb hR 1 6 [(0, .ref a)] [.ref a, .int (Int32.ofNat (sx_tb tx).length)] rfl hl (fun ls hl => ?_)
  refine jd_call (M := zJm1) (q := (335, 0, 1, 0)) (vs := [.ref a]) (rest := [.int (Int32.ofNat (sx_tb tx).length)]) zJk1 zJc1 hF (zkM_ok zJcd hts zJls_335 zJm1 rfl).1 (pv_row hR rfl) rfl (Nat.le_of_ble_eq_true rfl) (Nat.le_of_ble_eq_true rfl) (Nat.le_of_ble_eq_true rfl) (Nat.le_of_ble_eq_true rfl) (fun h => by cases h) (Nat.zero_le _) (Nat.zero_le _) (jr htx _ rfl []) (fun _ _ _ => trivial) (fun _ _ _ _ _ => trivial) va_S.rf hl.1 (jc_coder hk ha) (fun vo locs2 hV hp => ?_)
  subst hp
  refine lv_ishr hx hb (pv_row hR rfl) ?_
  have e0 : Int32.ofNat (sx_tb tx).length >>> ((0 : Int32) &&& 31) = Int32.ofNat (sx_tb tx).length := by
    rw [show ((0 : Int32) &&& 31) = 0 by decide, Int32.shiftRight_zero]
  rw [e0]
  exact K (some (.int _)) .ireturn 10 ls locs2 hV rfl (Or.inl (Or.inl ⟨rfl, rfl, _, rfl⟩)) (pv_row hR rfl)
theorem jc_pre {i n : Int32} {v : Value} (h0 : 0 ≤ i.toInt) (h1 : i.toInt < n.toInt) (hv : v.category = 1) : jd_C D (zAS ST) b0 l zJm6 0 0 (fun _ => True) H [.int i, .int n, v] (fun vo => vo = some (.int i)) := by
  intro p e R s m args below meth c Q ls hF hh _ hl K
  subst hh
  obtain ⟨hx, hb, hml, hown, hts⟩ := id hF.1
  have hR := zJk6.1
  refine pv_W hx hb hR 1 1 [(0, .int i), (1, .int n)] [.int i] rfl (lv_sub hl [0, 1] rfl) (fun ls hl => ?_)
  refine pv_if hF.1 hR .lt 8 9 rfl rfl (fun h => absurd (show i.toInt < 0 from h) (by omega)) (fun _ => ?_)
  refine pv_W hx hb hR 2 6 [(0, .int i), (1, .int n)] [.int n, .int i] rfl hl (fun ls hl => ?_)
  refine pv_icmp hF.1 hR .lt 10 16 rfl rfl (fun _ => ?_) (fun h => absurd (show n.toInt ≤ i.toInt from h) (by omega))
  refine pv_W hx hb hR 1 17 [(0, .int i), (1, .int n)] [.int i] rfl hl (fun ls hl => ?_)
  exact K (some (.int i)) .ireturn 17 ls [] va_S.rf rfl (Or.inl (Or.inl ⟨rfl, rfl, _, rfl⟩)) (pv_row hR rfl)
theorem jc_chk (hk : zSTk ST) {i n : Int32} (h0 : 0 ≤ i.toInt) (h1 : i.toInt < n.toInt) : jd_C D (zAS ST) b0 l zJm5 1 22 (fun _ => True) H [.int i, .int n] (fun vo => vo = none) := by
  intro p e R s m args below meth c Q ls hF hh _ hl K
  subst hh
  obtain ⟨hx, hb, hml, hown, hts⟩ := id hF.1
  have hR := zJk5.1
  refine pv_W hx hb hR 2 2 [(0, .int i), (1, .int n)] [.int n, .int i] rfl hl (fun ls hl => ?_)
  rcases sx_ZS_q hF.2.2.2.2.2.2.2.2.2.2 hk.2 rfl with hz | ⟨q, hz⟩
  · refine va_gets hx hb hz va_S.rf hown (hts _ zJf_1053) (fun x hx => hx) (pv_row hR rfl) ?_
    refine jd_call (M := zJm6) (q := (1059, 1, 6, 3)) (vs := [.int i, .int n, .null]) (rest := []) zJk6 zJc6 hF (zkM_ok zJcd hts zJls_1059 zJm6 rfl).1 (pv_row hR rfl) rfl (Nat.le_of_ble_eq_true rfl) (Nat.le_of_ble_eq_true rfl) (Nat.le_of_ble_eq_true rfl) (Nat.le_of_ble_eq_true rfl) (fun h => by cases h) (Nat.zero_le _) (Nat.zero_le _) (fun h => absurd rfl h) (fun _ _ _ => trivial) (fun _ _ _ _ _ => trivial) va_S.rf hl.1 (jc_pre h0 h1 rfl) (fun vo locs2 hV hp => ?_)
    subst hp
    refine lv_pop hx hb (pv_row hR rfl) rfl ?_
    exact K none .return_ 9 ls locs2 hV rfl (Or.inl (Or.inr (Or.inr (Or.inr (Or.inl ⟨rfl, rfl, rfl⟩))))) (pv_row hR rfl)
  · refine va_gets hx hb hz va_S.rf hown (hts _ zJf_1053) (fun x hx => hx) (pv_row hR rfl) ?_
    refine jd_call (M := zJm6) (q := (1059, 1, 6, 3)) (vs := [.int i, .int n, .ref q]) (rest := []) zJk6 zJc6 hF (zkM_ok zJcd hts zJls_1059 zJm6 rfl).1 (pv_row hR rfl) rfl (Nat.le_of_ble_eq_true rfl) (Nat.le_of_ble_eq_true rfl) (Nat.le_of_ble_eq_true rfl) (Nat.le_of_ble_eq_true rfl) (fun h => by cases h) (Nat.zero_le _) (Nat.zero_le _) (fun h => absurd rfl h) (fun _ _ _ => trivial) (fun _ _ _ _ _ => trivial) va_S.rf hl.1 (jc_pre h0 h1 rfl) (fun vo locs2 hV hp => ?_)
    subst hp
    refine lv_pop hx hb (pv_row hR rfl) rfl ?_
    exact K none .return_ 9 ls locs2 hV rfl (Or.inl (Or.inr (Or.inr (Or.inr (Or.inl ⟨rfl, rfl, rfl⟩))))) (pv_row hR rfl)
theorem jXm {s : State} {V n : Nat} {f : Nat → Value} (h : va_T .byte V n f b0.1 s s.heap) : ∀ U : State, U.heap = s.heap → s.WarmedH U.vm → va_T .byte V n f b0.1 U U.heap := fun U hU hW => by
  rw [hU]
  exact va_T.moved hW.alike h
theorem jXc {V n : Nat} {f : Nat → Value} (U : State) (g mk a) (h : va_T .byte V n f b0.1 U U.heap) : va_T .byte V n f b0.1 (U.calling g mk a) (U.calling g mk a).heap := va_T.moved (U := U.calling g mk a) (Vm.Alike.refl U.vm) h
theorem jin {i : Int32} {n : Nat} (h0 : 0 ≤ i.toInt) (h1 : i.toInt < n) : vp_in i n := by
  intro h
  rcases h with h | h
  · have := Int32.lt_iff_toInt_lt.mp h
    have e : (0 : Int32).toInt = 0 := by decide
    omega
  · have : i.toNatClampNeg = i.toInt.toNat := rfl
    omega
theorem jc_sl (hk : zSTk ST) {V n : Nat} {i : Int32} (hn : n < 2 ^ 31) (hnl : n = (sx_tb tx).length) (h0 : 0 ≤ i.toInt) (h1 : i.toInt < n) (hc : narrow .char (.int (zch tx i)) = .int (zch tx i)) : jd_C D (zAS ST) b0 l zJm4 2 43 (fun U => va_T .byte V n (fun j => .int ((sx_tb tx).getD j 0)) b0.1 U U.heap) H [.ref V, .int i] (fun vo => vo = some (.int (zch tx i))) := by
  intro p e R s m args below meth c Q ls hF hh hX hl K
  subst hh
  obtain ⟨hx, hb, hml, hown, hts⟩ := id hF.1
  have hR := zJk4.1
  have en : (Int32.ofNat n).toInt = n := Int32.toInt_ofNat_of_lt hn
  refine pv_W hx hb hR 2 2 [(0, .ref V), (1, .int i)] [.ref V, .int i] rfl hl (fun ls hl => ?_)
  refine va_tlen hx hb hX va_S.rf rfl (pv_row hR rfl) ?_
  refine jd_call (M := zJm5) (q := (9, 1, 5, 2)) (vs := [.int i, .int (Int32.ofNat n)]) (rest := []) zJk5 zJc5 hF (zkM_ok zJcd hts zJll_9 zJm5 rfl).1 (pv_row hR rfl) rfl (Nat.le_of_ble_eq_true rfl) (Nat.le_of_ble_eq_true rfl) (Nat.le_of_ble_eq_true rfl) (Nat.le_of_ble_eq_true rfl) (fun h => by cases h) (Nat.zero_le _) (Nat.zero_le _) (fun h => absurd rfl h) (fun _ _ _ => trivial) (fun _ _ _ _ _ => trivial) va_S.rf hl.1 (jc_chk hk h0 (by rw [en]; exact h1)) (fun vo locs2 hV hp => ?_)
  subst hp
  refine pv_W hx hb hR 2 8 [(0, .ref V), (1, .int i)] [.int i, .ref V] rfl hl (fun ls hl => ?_)
  refine va_tb hx hb hX hV (jin h0 h1) rfl (pv_row hR rfl) ?_
  refine pv_W hx hb hR 2 13 [(0, .ref V), (1, .int i)] [.int ((sx_tb tx).getD i.toNatClampNeg 0 &&& (Int16.ofInt 255).toInt32)] rfl hl (fun ls hl => ?_)
  refine lv_i2c hx hb (pv_row hR rfl) rfl ?_
  exact K (some (.int (zch tx i))) .ireturn 14 ls locs2 hV rfl (Or.inr ⟨.char, _, rfl, rfl, hc, rfl⟩) (pv_row hR rfl)
theorem jc_chr (hk : zSTk ST) (ha : zTxa ST a tx) {i : Int32} (hn : (sx_tb tx).length < 2 ^ 31) (h0 : 0 ≤ i.toInt) (h1 : i.toInt < (sx_tb tx).length) (hc : narrow .char (.int (zch tx i)) = .int (zch tx i)) : jd_C D (zAS ST) b0 l zJm3 3 64 (fun _ => True) H [.ref a, .int i] (fun vo => vo = some (.int (zch tx i))) := by
  intro p e R s m args below meth c Q ls hF hh _ hl K
  subst hh
  obtain ⟨hx, hb, hml, hown, hts⟩ := id hF.1
  have hR := zJk3.1
  have htx := zTxa_tx hF ha
  obtain ⟨x1, x2, V, x3, x4⟩ := id htx
  refine pv_W hx hb hR 1 1 [(0, .ref a), (1, .int i)] [.ref a] rfl hl (fun ls hl => ?_)
  refine jd_call (M := zJm2) (q := (492, 0, 2, 0)) (vs := [.ref a]) (rest := []) zJk2 zJc2 hF (zkM_ok zJcd hts zJls_492 zJm2 rfl).1 (pv_row hR rfl) rfl (Nat.le_of_ble_eq_true rfl) (Nat.le_of_ble_eq_true rfl) (Nat.le_of_ble_eq_true rfl) (Nat.le_of_ble_eq_true rfl) (fun h => by cases h) (Nat.zero_le _) (Nat.zero_le _) (jr htx _ rfl []) (fun _ _ _ => trivial) (fun _ _ _ _ _ => trivial) va_S.rf hl.1 (jc_lat hk ha) (fun vo locs2 hV hp => ?_)
  subst hp
  refine pv_if hF.1 hR .eq 12 16 rfl rfl (fun h => absurd (show (Int32.ofInt 1).toInt = 0 from h) (by decide)) (fun _ => ?_)
  refine pv_W hx hb hR 1 8 [(0, .ref a), (1, .int i)] [.ref a] rfl hl (fun ls hl => ?_)
  refine vk_getf hx hb x3 hV hown (hts _ zJf_9) (fun x hx => hx) (pv_row hR rfl) ?_
  refine pv_W hx hb hR 1 12 [(0, .ref a), (1, .int i)] [.int i, .ref V] rfl hl (fun ls hl => ?_)
  refine jd_call (M := zJm4) (q := (495, 1, 4, 2)) (vs := [.ref V, .int i]) (rest := []) zJk4 zJc4 hF (zkM_ok zJcd hts zJls_495 zJm4 rfl).1 (pv_row hR rfl) rfl (Nat.le_of_ble_eq_true rfl) (Nat.le_of_ble_eq_true rfl) (Nat.le_of_ble_eq_true rfl) (Nat.le_of_ble_eq_true rfl) (fun h => by cases h) (Nat.zero_le _) (Nat.zero_le _) (fun h => absurd rfl h) (jXm x4) jXc hV hl.1 (jc_sl hk hn rfl h0 h1 hc) (fun vo locs3 hV3 hp => ?_)
  subst hp
  exact K (some (.int (zch tx i))) .ireturn 15 ls locs3 hV3 rfl (Or.inr ⟨.char, _, rfl, rfl, hc, rfl⟩) (pv_row hR rfl)
end JW
