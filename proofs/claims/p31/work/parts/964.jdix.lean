/-! indexOf of a constant text -/
section JX
variable {D : va_G} {ST : List (String × String × String × Nat)} {b0 : sx_B} {l : Launch} {H : Heap} {a : Nat} {tx : String}
theorem jc_enc {x : Int32} (h0 : 0 ≤ x.toInt) (h1 : x.toInt ≤ 255) : jd_C D (zAS ST) b0 l zJm10 0 0 (fun _ => True) H [.int x] (fun vo => vo = some (.int (Int32.ofInt 1))) := by
  intro p e R s m args below meth c Q ls hF hh _ hl K
  subst hh
  obtain ⟨hx, hb, hml, hown, hts⟩ := id hF.1
  have hR := zJk10.1
  have e255 : (Int16.ofInt 255).toInt32.toInt = 255 := by decide
  refine pv_W hx hb hR 1 1 [(0, .int x)] [.int x] rfl hl (fun ls hl => ?_)
  refine pv_if hF.1 hR .lt 14 15 rfl rfl (fun h => absurd (show x.toInt < 0 from h) (by omega)) (fun _ => ?_)
  refine pv_W hx hb hR 2 8 [(0, .int x)] [.int (Int16.ofInt 255).toInt32, .int x] rfl hl (fun ls hl => ?_)
  refine pv_icmp hF.1 hR .gt 7 15 rfl rfl (fun h => absurd (show (Int16.ofInt 255).toInt32.toInt < x.toInt from h) (by omega)) (fun _ => ?_)
  refine pv_W hx hb hR 2 16 [(0, .int x)] [.int (Int32.ofInt 1)] rfl hl (fun ls hl => ?_)
  exact K (some (.int (Int32.ofInt 1))) .ireturn 16 ls [] va_S.rf rfl (Or.inr ⟨.boolean, Int32.ofInt 1, rfl, rfl, by decide, rfl⟩) (pv_row hR rfl)
theorem jc_max {x y : Int32} : jd_C D (zAS ST) b0 l zJm12 0 0 (fun _ => True) H [.int x, .int y] (fun vo => ∃ r, vo = some (.int r) ∧ (r = x ∨ r = y)) := by
  intro p e R s m args below meth c Q ls hF hh _ hl K
  subst hh
  obtain ⟨hx, hb, hml, hown, hts⟩ := id hF.1
  have hR := zJk12.1
  refine pv_W hx hb hR 2 2 [(0, .int x), (1, .int y)] [.int y, .int x] rfl hl (fun ls hl => ?_)
  refine pv_icmp hF.1 hR .lt 7 9 rfl rfl (fun _ => ?_) (fun _ => ?_)
  · refine pv_W hx hb hR 1 10 [(0, .int x), (1, .int y)] [.int y] rfl hl (fun ls hl => ?_)
    exact K (some (.int y)) .ireturn 10 ls [] va_S.rf ⟨y, rfl, Or.inr rfl⟩ (Or.inl (Or.inl ⟨rfl, rfl, _, rfl⟩)) (pv_row hR rfl)
  · refine pv_W hx hb hR 2 10 [(0, .int x), (1, .int y)] [.int x] rfl hl (fun ls hl => ?_)
    exact K (some (.int x)) .ireturn 10 ls [] va_S.rf ⟨x, rfl, Or.inl rfl⟩ (Or.inl (Or.inl ⟨rfl, rfl, _, rfl⟩)) (pv_row hR rfl)
theorem jc_min {x y : Int32} : jd_C D (zAS ST) b0 l zJm13 0 0 (fun _ => True) H [.int x, .int y] (fun vo => ∃ r, vo = some (.int r) ∧ (r = x ∨ r = y)) := by
  intro p e R s m args below meth c Q ls hF hh _ hl K
  subst hh
  obtain ⟨hx, hb, hml, hown, hts⟩ := id hF.1
  have hR := zJk13.1
  refine pv_W hx hb hR 2 2 [(0, .int x), (1, .int y)] [.int y, .int x] rfl hl (fun ls hl => ?_)
  refine pv_icmp hF.1 hR .gt 7 9 rfl rfl (fun _ => ?_) (fun _ => ?_)
  · refine pv_W hx hb hR 1 10 [(0, .int x), (1, .int y)] [.int y] rfl hl (fun ls hl => ?_)
    exact K (some (.int y)) .ireturn 10 ls [] va_S.rf ⟨y, rfl, Or.inr rfl⟩ (Or.inl (Or.inl ⟨rfl, rfl, _, rfl⟩)) (pv_row hR rfl)
  · refine pv_W hx hb hR 2 10 [(0, .int x), (1, .int y)] [.int x] rfl hl (fun ls hl => ?_)
    exact K (some (.int x)) .ireturn 10 ls [] va_S.rf ⟨x, rfl, Or.inl rfl⟩ (Or.inl (Or.inl ⟨rfl, rfl, _, rfl⟩)) (pv_row hR rfl)
theorem jc_ixc {V n : Nat} {f : Nat → Int32} {ch z nn : Int32} (hn : n < 2 ^ 31) (hz : z.toInt = 0) (hnn : nn.toInt = n) : jd_C D (zAS ST) b0 l zJm11 0 0 (fun U => va_T .byte V n (fun j => .int (f j)) b0.1 U U.heap) H [.ref V, .int ch, .int z, .int nn] (fun vo => ∃ r : Int32, vo = some (.int r) ∧ -1 ≤ r.toInt ∧ r.toInt < n) := by
  intro p e R s m args below meth c Q ls hF hh hX hl K
  subst hh
  obtain ⟨hx, hb, hml, hown, hts⟩ := id hF.1
  have hR := zJk11.1
  have em : (Int32.ofInt (-1)).toInt = -1 := by decide
  have key : ∀ (k : Nat) (i x : Int32) (ls : Array Slot), (n - i.toInt).toNat = k → 0 ≤ i.toInt → i.toInt ≤ n → lv_has ls 6 [(0, .ref V), (3, .int nn), (4, .int x), (5, .int i)] → W p l e R s m args below meth c s.heap [] 0 0 Q (F0 m 7 ls []) := by
    intro k
    induction k with
    | zero =>
      intro i x ls hk h0 h1 hl
      refine pv_W hx hb hR 2 10 [(0, .ref V), (3, .int nn), (4, .int x), (5, .int i)] [.int nn, .int i] rfl hl (fun ls hl => ?_)
      refine pv_icmp hF.1 hR .ge 21 31 rfl rfl (fun _ => ?_) (fun h => absurd (show i.toInt < nn.toInt from h) (by omega))
      refine pv_W hx hb hR 1 32 [(0, .ref V), (3, .int nn), (4, .int x), (5, .int i)] [.int (Int32.ofInt (-1))] rfl hl (fun ls hl => ?_)
      exact K (some (.int (Int32.ofInt (-1)))) .ireturn 32 ls [] va_S.rf ⟨_, rfl, by omega, by omega⟩ (Or.inl (Or.inl ⟨rfl, rfl, _, rfl⟩)) (pv_row hR rfl)
    | succ k ih =>
      intro i x ls hk h0 h1 hl
      refine pv_W hx hb hR 2 10 [(0, .ref V), (3, .int nn), (4, .int x), (5, .int i)] [.int nn, .int i] rfl hl (fun ls hl => ?_)
      refine pv_icmp hF.1 hR .ge 21 31 rfl rfl (fun h => absurd (show nn.toInt ≤ i.toInt from h) (by omega)) (fun _ => ?_)
      refine pv_W hx hb hR 2 16 [(0, .ref V), (3, .int nn), (4, .int x), (5, .int i)] [.int i, .ref V] rfl hl (fun ls hl => ?_)
      refine va_tb hx hb hX va_S.rf (jin h0 (by omega)) rfl (pv_row hR rfl) ?_
      refine pv_W hx hb hR 1 19 [(0, .ref V), (3, .int nn), (4, .int x), (5, .int i)] [.int x, .int (f i.toNatClampNeg)] rfl hl (fun ls hl => ?_)
      refine pv_icmp hF.1 hR .ne 6 25 rfl rfl (fun _ => ?_) (fun _ => ?_)
      · refine pv_W hx hb hR 2 7 [(5, .int (i + Int32.ofInt 1)), (0, .ref V), (3, .int nn), (4, .int x)] [] rfl hl (fun ls hl => ?_)
        have e1 : (i + Int32.ofInt 1).toInt = i.toInt + 1 := by
          have e : (Int32.ofInt 1).toInt = 1 := by decide
          have hlt := Int32.toInt_lt nn
          rw [Jvm.Kit.i32_add (by rw [e]; omega) (by rw [e]; omega), e]
        exact ih (i + Int32.ofInt 1) x ls (by omega) (by omega) (by omega) (lv_sub hl [1, 2, 3, 0] rfl)
      · refine pv_W hx hb hR 1 24 [(0, .ref V), (3, .int nn), (4, .int x), (5, .int i)] [.int i] rfl hl (fun ls hl => ?_)
        exact K (some (.int i)) .ireturn 24 ls [] va_S.rf ⟨_, rfl, by omega, by omega⟩ (Or.inl (Or.inl ⟨rfl, rfl, _, rfl⟩)) (pv_row hR rfl)
  refine pv_W hx hb hR 1 1 [(0, .ref V), (1, .int ch), (2, .int z), (3, .int nn)] [.int ch] rfl hl (fun ls hl => ?_)
  refine lv_i2b hx hb (pv_row hR rfl) rfl ?_
  refine pv_W hx hb hR 3 7 [(5, .int z), (4, .int ch.toInt8.toInt32), (0, .ref V), (1, .int ch), (2, .int z), (3, .int nn)] [] rfl hl (fun ls hl => ?_)
  exact key _ z _ ls rfl (by omega) (by omega) (lv_sub hl [2, 5, 1, 0] rfl)
theorem jc_six {V n : Nat} {f : Nat → Int32} {ch z nn : Int32} (hn : n < 2 ^ 31) (h0 : 0 ≤ ch.toInt) (h1 : ch.toInt ≤ 255) (hz : z.toInt = 0) (hnn : nn = Int32.ofNat n) : jd_C D (zAS ST) b0 l zJm9 1 25 (fun U => va_T .byte V n (fun j => .int (f j)) b0.1 U U.heap) H [.ref V, .int ch, .int z, .int nn] (fun vo => ∃ r : Int32, vo = some (.int r) ∧ -1 ≤ r.toInt ∧ r.toInt < n) := by
  intro p e R s m args below meth c Q ls hF hh hX hl K
  subst hh
  obtain ⟨hx, hb, hml, hown, hts⟩ := id hF.1
  have hR := zJk9.1
  have en : nn.toInt = n := by rw [hnn]; exact Int32.toInt_ofNat_of_lt hn
  have em : (Int32.ofInt (-1)).toInt = -1 := by decide
  refine pv_W hx hb hR 1 1 [(0, .ref V), (1, .int ch), (2, .int z), (3, .int nn)] [.int ch] rfl hl (fun ls hl => ?_)
  refine jd_call (M := zJm10) (q := (88, 1, 10, 1)) (vs := [.int ch]) (rest := []) zJk10 zJc10 hF (zkM_ok zJcd hts zJll_88 zJm10 rfl).1 (pv_row hR rfl) rfl (Nat.le_of_ble_eq_true rfl) (Nat.le_of_ble_eq_true rfl) (Nat.le_of_ble_eq_true rfl) (Nat.le_of_ble_eq_true rfl) (fun h => by cases h) (Nat.zero_le _) (Nat.zero_le _) (fun h => absurd rfl h) (fun _ _ _ => trivial) (fun _ _ _ _ _ => trivial) va_S.rf hl.1 (jc_enc h0 h1) (fun vo locs2 hV hp => ?_)
  subst hp
  refine pv_if hF.1 hR .ne 5 9 rfl rfl (fun _ => ?_) (fun h => absurd (show (Int32.ofInt 1).toInt = 0 from h) (by decide))
  refine pv_W hx hb hR 2 11 [(0, .ref V), (1, .int ch), (2, .int z), (3, .int nn)] [.int (Int32.ofInt 0), .int z] rfl hl (fun ls hl => ?_)
  refine jd_call (M := zJm12) (q := (92, 1, 12, 2)) (vs := [.int z, .int (Int32.ofInt 0)]) (rest := []) zJk12 zJc12 hF (zkM_ok zJcd hts zJll_92 zJm12 rfl).1 (pv_row hR rfl) rfl (Nat.le_of_ble_eq_true rfl) (Nat.le_of_ble_eq_true rfl) (Nat.le_of_ble_eq_true rfl) (Nat.le_of_ble_eq_true rfl) (fun h => by cases h) (Nat.zero_le _) (Nat.zero_le _) (fun h => absurd rfl h) (fun _ _ _ => trivial) (fun _ _ _ _ _ => trivial) hV hl.1 jc_max (fun vo locs3 hV3 hp => ?_)
  obtain ⟨z2, rfl, hz2⟩ := hp
  have ez2 : z2.toInt = 0 := by
    rcases hz2 with rfl | rfl
    · exact hz
    · decide
  refine pv_W hx hb hR 3 17 [(2, .int z2), (0, .ref V), (1, .int ch), (3, .int nn)] [.ref V, .int nn] rfl hl (fun ls hl => ?_)
  refine va_tlen hx hb hX hV3 hnn.symm (pv_row hR rfl) ?_
  refine jd_call (M := zJm13) (q := (38, 1, 13, 2)) (vs := [.int nn, .int nn]) (rest := []) zJk13 zJc13 hF (zkM_ok zJcd hts zJll_38 zJm13 rfl).1 (pv_row hR rfl) rfl (Nat.le_of_ble_eq_true rfl) (Nat.le_of_ble_eq_true rfl) (Nat.le_of_ble_eq_true rfl) (Nat.le_of_ble_eq_true rfl) (fun h => by cases h) (Nat.zero_le _) (Nat.zero_le _) (fun h => absurd rfl h) (fun _ _ _ => trivial) (fun _ _ _ _ _ => trivial) hV3 hl.1 jc_min (fun vo locs4 hV4 hp => ?_)
  obtain ⟨n2, rfl, hn2⟩ := hp
  obtain rfl : n2 = nn := by rcases hn2 with h | h <;> exact h
  refine pv_W hx hb hR 3 24 [(3, .int n2), (2, .int z2), (0, .ref V), (1, .int ch)] [.int n2, .int z2] rfl hl (fun ls hl => ?_)
  refine pv_icmp hF.1 hR .lt 5 29 rfl rfl (fun _ => ?_) (fun _ => ?_)
  · refine pv_W hx hb hR 4 33 [(3, .int n2), (2, .int z2), (0, .ref V), (1, .int ch)] [.int n2, .int z2, .int ch, .ref V] rfl hl (fun ls hl => ?_)
    refine jd_call (M := zJm11) (q := (95, 1, 11, 4)) (vs := [.ref V, .int ch, .int z2, .int n2]) (rest := []) zJk11 zJc11 hF (zkM_ok zJcd hts zJll_95 zJm11 rfl).1 (pv_row hR rfl) rfl (Nat.le_of_ble_eq_true rfl) (Nat.le_of_ble_eq_true rfl) (Nat.le_of_ble_eq_true rfl) (Nat.le_of_ble_eq_true rfl) (fun h => by cases h) (Nat.zero_le _) (Nat.zero_le _) (fun h => absurd rfl h) (jXm hX) jXc hV4 hl.1 (jc_ixc hn ez2 en) (fun vo locs5 hV5 hp => ?_)
    obtain ⟨r, rfl, hr⟩ := hp
    exact K (some (.int r)) .ireturn 36 ls locs5 hV5 ⟨r, rfl, hr⟩ (Or.inl (Or.inl ⟨rfl, rfl, _, rfl⟩)) (pv_row hR rfl)
  · refine pv_W hx hb hR 1 28 [(3, .int n2), (2, .int z2), (0, .ref V), (1, .int ch)] [.int (Int32.ofInt (-1))] rfl hl (fun ls hl => ?_)
    exact K (some (.int (Int32.ofInt (-1)))) .ireturn 28 ls locs4 hV4 ⟨_, rfl, by omega, by omega⟩ (Or.inl (Or.inl ⟨rfl, rfl, _, rfl⟩)) (pv_row hR rfl)
theorem jc_ix2 (hk : zSTk ST) (ha : zTxa ST a tx) {ch z : Int32} (hn : (sx_tb tx).length < 2 ^ 31) (h0 : 0 ≤ ch.toInt) (h1 : ch.toInt ≤ 255) (hz : z.toInt = 0) : jd_C D (zAS ST) b0 l zJm8 2 48 (fun _ => True) H [.ref a, .int ch, .int z] (fun vo => ∃ r : Int32, vo = some (.int r) ∧ -1 ≤ r.toInt ∧ r.toInt < (sx_tb tx).length) := by
  intro p e R s m args below meth c Q ls hF hh _ hl K
  subst hh
  obtain ⟨hx, hb, hml, hown, hts⟩ := id hF.1
  have hR := zJk8.1
  have htx := zTxa_tx hF ha
  obtain ⟨x1, x2, V, x3, x4⟩ := id htx
  refine pv_W hx hb hR 1 1 [(0, .ref a), (1, .int ch), (2, .int z)] [.ref a] rfl hl (fun ls hl => ?_)
  refine jd_call (M := zJm2) (q := (492, 0, 2, 0)) (vs := [.ref a]) (rest := []) zJk2 zJc2 hF (zkM_ok zJcd hts zJls_492 zJm2 rfl).1 (pv_row hR rfl) rfl (Nat.le_of_ble_eq_true rfl) (Nat.le_of_ble_eq_true rfl) (Nat.le_of_ble_eq_true rfl) (Nat.le_of_ble_eq_true rfl) (fun h => by cases h) (Nat.zero_le _) (Nat.zero_le _) (jr htx _ rfl []) (fun _ _ _ => trivial) (fun _ _ _ _ _ => trivial) va_S.rf hl.1 (jc_lat hk ha) (fun vo locs2 hV hp => ?_)
  subst hp
  refine pv_if hF.1 hR .eq 19 23 rfl rfl (fun h => absurd (show (Int32.ofInt 1).toInt = 0 from h) (by decide)) (fun _ => ?_)
  refine pv_W hx hb hR 1 8 [(0, .ref a), (1, .int ch), (2, .int z)] [.ref a] rfl hl (fun ls hl => ?_)
  refine vk_getf hx hb x3 hV hown (hts _ zJf_9) (fun x hx => hx) (pv_row hR rfl) ?_
  refine pv_W hx hb hR 3 14 [(0, .ref a), (1, .int ch), (2, .int z)] [.ref a, .int z, .int ch, .ref V] rfl hl (fun ls hl => ?_)
  refine jd_call (M := zJm0) (q := (505, 0, 0, 0)) (vs := [.ref a]) (rest := [.int z, .int ch, .ref V]) zJk0 zJc0 hF (zkM_ok zJcd hts zJls_505 zJm0 rfl).1 (pv_row hR rfl) rfl (Nat.le_of_ble_eq_true rfl) (Nat.le_of_ble_eq_true rfl) (Nat.le_of_ble_eq_true rfl) (Nat.le_of_ble_eq_true rfl) (fun h => by cases h) (Nat.zero_le _) (Nat.zero_le _) (jr htx _ rfl []) (fun _ _ _ => trivial) (fun _ _ _ _ _ => trivial) hV hl.1 (jc_len hk ha) (fun vo locs3 hV3 hp => ?_)
  subst hp
  refine jd_call (M := zJm9) (q := (637, 1, 9, 4)) (vs := [.ref V, .int ch, .int z, .int (Int32.ofNat (sx_tb tx).length)]) (rest := []) zJk9 zJc9 hF (zkM_ok zJcd hts zJls_637 zJm9 rfl).1 (pv_row hR rfl) rfl (Nat.le_of_ble_eq_true rfl) (Nat.le_of_ble_eq_true rfl) (Nat.le_of_ble_eq_true rfl) (Nat.le_of_ble_eq_true rfl) (fun h => by cases h) (Nat.zero_le _) (Nat.zero_le _) (fun h => absurd rfl h) (jXm x4) jXc hV3 hl.1 (jc_six hn h0 h1 hz rfl) (fun vo locs4 hV4 hp => ?_)
  obtain ⟨r, rfl, hr⟩ := hp
  refine pv_W hx hb hR 1 36 [(0, .ref a), (1, .int ch), (2, .int z)] [.int r] rfl hl (fun ls hl => ?_)
  exact K (some (.int r)) .ireturn 36 ls locs4 hV4 ⟨r, rfl, hr⟩ (Or.inl (Or.inl ⟨rfl, rfl, _, rfl⟩)) (pv_row hR rfl)
theorem jc_ix (hk : zSTk ST) (ha : zTxa ST a tx) {ch : Int32} (hn : (sx_tb tx).length < 2 ^ 31) (h0 : 0 ≤ ch.toInt) (h1 : ch.toInt ≤ 255) : jd_C D (zAS ST) b0 l zJm7 3 70 (fun _ => True) H [.ref a, .int ch] (fun vo => ∃ r : Int32, vo = some (.int r) ∧ -1 ≤ r.toInt ∧ r.toInt < (sx_tb tx).length) := by
  intro p e R s m args below meth c Q ls hF hh _ hl K
  subst hh
  obtain ⟨hx, hb, hml, hown, hts⟩ := id hF.1
  have hR := zJk7.1
  have htx := zTxa_tx hF ha
  refine pv_W hx hb hR 3 3 [(0, .ref a), (1, .int ch)] [.int (Int32.ofInt 0), .int ch, .ref a] rfl hl (fun ls hl => ?_)
  refine jd_call (M := zJm8) (q := (633, 0, 8, 2)) (vs := [.ref a, .int ch, .int (Int32.ofInt 0)]) (rest := []) zJk8 zJc8 hF (zkM_ok zJcd hts zJls_633 zJm8 rfl).1 (pv_row hR rfl) rfl (Nat.le_of_ble_eq_true rfl) (Nat.le_of_ble_eq_true rfl) (Nat.le_of_ble_eq_true rfl) (Nat.le_of_ble_eq_true rfl) (fun h => by cases h) (Nat.zero_le _) (Nat.zero_le _) (jr htx _ rfl [.int ch, .int (Int32.ofInt 0)]) (fun _ _ _ => trivial) (fun _ _ _ _ _ => trivial) va_S.rf hl.1 (jc_ix2 hk ha hn h0 h1 (by decide)) (fun vo locs2 hV hp => ?_)
  obtain ⟨r, rfl, hr⟩ := hp
  exact K (some (.int r)) .ireturn 6 ls locs2 hV ⟨r, rfl, hr⟩ (Or.inl (Or.inl ⟨rfl, rfl, _, rfl⟩)) (pv_row hR rfl)
end JX
