/-! indexOf of a constant text, told wholly; which signs there are -/
section JX
variable {D : va_G} {ST : List (String × String × String × Nat)} {b0 : sx_B} {l : Launch} {H : Heap} {a : Nat} {tx : String}
theorem jy_ixc {V n : Nat} {f : Nat → Int32} {ch z nn : Int32} (hn : n < 2 ^ 31) (hz : z.toInt = 0) (hnn : nn.toInt = n) : jd_C D (zAS ST) b0 l zJm11 0 0 (fun U => va_T .byte V n (fun j => .int (f j)) b0.1 U U.heap) H [.ref V, .int ch, .int z, .int nn] (fun vo => ∃ r : Int32, vo = some (.int r) ∧ (-1 ≤ r.toInt ∧ r.toInt < n) ∧ (r.toInt < 0 → ∀ j, j < n → f j ≠ ch.toInt8.toInt32) ∧ (0 ≤ r.toInt → f r.toInt.toNat = ch.toInt8.toInt32)) := by
  intro p e R s m args below meth c Q ls hF hh hX hl K
  subst hh
  obtain ⟨hx, hb, hml, hown, hts⟩ := id hF.1
  have hR := zJk11.1
  have em : (Int32.ofInt (-1)).toInt = -1 := by decide
  have key : ∀ (k : Nat) (i x : Int32) (ls : Array Slot), x = ch.toInt8.toInt32 → (∀ j : Nat, (j : Int) < i.toInt → f j ≠ x) → (n - i.toInt).toNat = k → 0 ≤ i.toInt → i.toInt ≤ n → lv_has ls 6 [(0, .ref V), (3, .int nn), (4, .int x), (5, .int i)] → W p l e R s m args below meth c s.heap [] 0 0 Q (F0 m 7 ls []) := by
    intro k
    induction k with
    | zero =>
      intro i x ls hx0 hpr hk h0 h1 hl
      refine pv_W hx hb hR 2 10 [(0, .ref V), (3, .int nn), (4, .int x), (5, .int i)] [.int nn, .int i] rfl hl (fun ls hl => ?_)
      refine pv_icmp hF.1 hR .ge 21 31 rfl rfl (fun _ => ?_) (fun h => absurd (show i.toInt < nn.toInt from h) (by omega))
      refine pv_W hx hb hR 1 32 [(0, .ref V), (3, .int nn), (4, .int x), (5, .int i)] [.int (Int32.ofInt (-1))] rfl hl (fun ls hl => ?_)
      exact K (some (.int (Int32.ofInt (-1)))) .ireturn 32 ls [] va_S.rf ⟨_, rfl, ⟨by omega, by omega⟩, fun _ j hj => by rw [← hx0]; exact hpr j (by omega), fun h => absurd h (by omega)⟩ (Or.inl (Or.inl ⟨rfl, rfl, _, rfl⟩)) (pv_row hR rfl)
    | succ k ih =>
      intro i x ls hx0 hpr hk h0 h1 hl
      refine pv_W hx hb hR 2 10 [(0, .ref V), (3, .int nn), (4, .int x), (5, .int i)] [.int nn, .int i] rfl hl (fun ls hl => ?_)
      refine pv_icmp hF.1 hR .ge 21 31 rfl rfl (fun h => absurd (show nn.toInt ≤ i.toInt from h) (by omega)) (fun _ => ?_)
      refine pv_W hx hb hR 2 16 [(0, .ref V), (3, .int nn), (4, .int x), (5, .int i)] [.int i, .ref V] rfl hl (fun ls hl => ?_)
      refine va_tb hx hb hX va_S.rf (jin h0 (by omega)) rfl (pv_row hR rfl) ?_
      refine pv_W hx hb hR 1 19 [(0, .ref V), (3, .int nn), (4, .int x), (5, .int i)] [.int x, .int (f i.toNatClampNeg)] rfl hl (fun ls hl => ?_)
      refine pv_icmp hF.1 hR .ne 6 25 rfl rfl (fun hne => ?_) (fun heq => ?_)
      · refine pv_W hx hb hR 2 7 [(5, .int (i + Int32.ofInt 1)), (0, .ref V), (3, .int nn), (4, .int x)] [] rfl hl (fun ls hl => ?_)
        have e1 : (i + Int32.ofInt 1).toInt = i.toInt + 1 := by
          have e : (Int32.ofInt 1).toInt = 1 := by decide
          have hlt := Int32.toInt_lt nn
          rw [Jvm.Kit.i32_add (by rw [e]; omega) (by rw [e]; omega), e]
        exact ih (i + Int32.ofInt 1) x ls hx0 (fun j hj => by
          by_cases hji : (j : Int) = i.toInt
          · intro he
            have hjn : i.toNatClampNeg = j := by
              have h : i.toNatClampNeg = i.toInt.toNat := rfl
              omega
            rw [← hjn] at he
            exact absurd (congrArg Int32.toInt he) hne
          · exact hpr j (by omega)) (by omega) (by omega) (by omega) (lv_sub hl [1, 2, 3, 0] rfl)
      · refine pv_W hx hb hR 1 24 [(0, .ref V), (3, .int nn), (4, .int x), (5, .int i)] [.int i] rfl hl (fun ls hl => ?_)
        exact K (some (.int i)) .ireturn 24 ls [] va_S.rf ⟨_, rfl, ⟨by omega, by omega⟩, fun h => absurd h (by omega), fun _ => by rw [← hx0]; exact Int32.toInt_inj.mp heq⟩ (Or.inl (Or.inl ⟨rfl, rfl, _, rfl⟩)) (pv_row hR rfl)
  refine pv_W hx hb hR 1 1 [(0, .ref V), (1, .int ch), (2, .int z), (3, .int nn)] [.int ch] rfl hl (fun ls hl => ?_)
  refine lv_i2b hx hb (pv_row hR rfl) rfl ?_
  refine pv_W hx hb hR 3 7 [(5, .int z), (4, .int ch.toInt8.toInt32), (0, .ref V), (1, .int ch), (2, .int z), (3, .int nn)] [] rfl hl (fun ls hl => ?_)
  exact key _ z _ ls rfl (fun j hj => absurd hj (by omega)) rfl (by omega) (by omega) (lv_sub hl [2, 5, 1, 0] rfl)
theorem jy_six {V n : Nat} {f : Nat → Int32} {ch z nn : Int32} (hn : n < 2 ^ 31) (h0 : 0 ≤ ch.toInt) (h1 : ch.toInt ≤ 255) (hz : z.toInt = 0) (hnn : nn = Int32.ofNat n) : jd_C D (zAS ST) b0 l zJm9 1 25 (fun U => va_T .byte V n (fun j => .int (f j)) b0.1 U U.heap) H [.ref V, .int ch, .int z, .int nn] (fun vo => ∃ r : Int32, vo = some (.int r) ∧ (-1 ≤ r.toInt ∧ r.toInt < n) ∧ (r.toInt < 0 → ∀ j, j < n → f j ≠ ch.toInt8.toInt32) ∧ (0 ≤ r.toInt → f r.toInt.toNat = ch.toInt8.toInt32)) := by
  intro p e R s m args below meth c Q ls hF hh hX hl K
  subst hh
  obtain ⟨hx, hb, hml, hown, hts⟩ := id hF.1
  have hR := zJk9.1
  have en : nn.toInt = n := by rw [hnn]; exact Int32.toInt_ofNat_of_lt hn
  have em : (Int32.ofInt (-1)).toInt = -1 := by decide
  refine pv_W hx hb hR 1 1 [(0, .ref V), (1, .int ch), (2, .int z), (3, .int nn)] [.int ch] rfl hl (fun ls hl => ?_)
  refine jd_call (M := zJm10) (q := (88, 1, 10, 1)) (vs := [.int ch]) (rest := []) zJk10 zJc10 hF (zkM_ok zJcd hts zJll_88 zJm10 rfl).1 (pv_row hR rfl) rfl (Nat.le_of_ble_eq_true rfl) (Nat.le_of_ble_eq_true rfl) (Nat.le_of_ble_eq_true rfl) (Nat.le_of_ble_eq_true rfl) (fun h => by cases h) (Nat.zero_le _) (Nat.zero_le _) (fun h => absurd rfl h) (fun _ _ _ => trivial) (fun _ _ _ _ _ => trivial) va_S.rf hl.1 (jc_enc h0 h1) (fun vo locs2 hV hp => ?_)
  subst hp
  refine pv_if hF.1 hR .ne 5 9 rfl rfl (fun _ => ?_) (fun h => absurd (show (Int32.ofInt 1).toInt = 0 from h) (by decide))
  refine pv_W hx hb hR 2 11 [(0, .ref V), (1, .int ch), (2, .int z), (3, .int nn)] [.int (Int32.ofInt 0), .int z] rfl hl (fun ls hl => ?_)
  refine jd_call (M := zJm12) (q := (92, 1, 12, 2)) (vs := [.int z, .int (Int32.ofInt 0)]) (rest := []) zJk12 zJc12 hF (zkM_ok zJcd hts zJll_92 zJm12 rfl).1 (pv_row hR rfl) rfl (Nat.le_of_ble_eq_true rfl) (Nat.le_of_ble_eq_true rfl) (Nat.le_of_ble_eq_true rfl) (Nat.le_of_ble_eq_true rfl) (fun h => by cases h) (Nat.zero_le _) (Nat.zero_le _) (fun h => absurd rfl h) (fun _ _ _ => trivial) (fun _ _ _ _ _ => trivial) hV hl.1 jc_max (fun vo locs3 hV3 hp => ?_)
  obtain ⟨z2, rfl, hz2⟩ := hp
  have ez2 : z2.toInt = 0 := by
    rcases hz2 with rfl | rfl
    · exact hz
    · decide
  refine pv_W hx hb hR 3 17 [(2, .int z2), (0, .ref V), (1, .int ch), (3, .int nn)] [.ref V, .int nn] rfl hl (fun ls hl => ?_)
  refine va_tlen hx hb hX hV3 hnn.symm (pv_row hR rfl) ?_
  refine jd_call (M := zJm13) (q := (38, 1, 13, 2)) (vs := [.int nn, .int nn]) (rest := []) zJk13 zJc13 hF (zkM_ok zJcd hts zJll_38 zJm13 rfl).1 (pv_row hR rfl) rfl (Nat.le_of_ble_eq_true rfl) (Nat.le_of_ble_eq_true rfl) (Nat.le_of_ble_eq_true rfl) (Nat.le_of_ble_eq_true rfl) (fun h => by cases h) (Nat.zero_le _) (Nat.zero_le _) (fun h => absurd rfl h) (fun _ _ _ => trivial) (fun _ _ _ _ _ => trivial) hV3 hl.1 jc_min (fun vo locs4 hV4 hp => ?_)
  obtain ⟨n2, rfl, hn2⟩ := hp
  obtain rfl : n2 = nn := by rcases hn2 with h | h <;> exact h
  refine pv_W hx hb hR 3 24 [(3, .int n2), (2, .int z2), (0, .ref V), (1, .int ch)] [.int n2, .int z2] rfl hl (fun ls hl => ?_)
  refine pv_icmp hF.1 hR .lt 5 29 rfl rfl (fun _ => ?_) (fun hge => ?_)
  · refine pv_W hx hb hR 4 33 [(3, .int n2), (2, .int z2), (0, .ref V), (1, .int ch)] [.int n2, .int z2, .int ch, .ref V] rfl hl (fun ls hl => ?_)
    refine jd_call (M := zJm11) (q := (95, 1, 11, 4)) (vs := [.ref V, .int ch, .int z2, .int n2]) (rest := []) zJk11 zJc11 hF (zkM_ok zJcd hts zJll_95 zJm11 rfl).1 (pv_row hR rfl) rfl (Nat.le_of_ble_eq_true rfl) (Nat.le_of_ble_eq_true rfl) (Nat.le_of_ble_eq_true rfl) (Nat.le_of_ble_eq_true rfl) (fun h => by cases h) (Nat.zero_le _) (Nat.zero_le _) (fun h => absurd rfl h) (jXm hX) jXc hV4 hl.1 (jy_ixc hn ez2 en) (fun vo locs5 hV5 hp => ?_)
    obtain ⟨r, rfl, hr⟩ := hp
    exact K (some (.int r)) .ireturn 36 ls locs5 hV5 ⟨r, rfl, hr⟩ (Or.inl (Or.inl ⟨rfl, rfl, _, rfl⟩)) (pv_row hR rfl)
  · refine pv_W hx hb hR 1 28 [(3, .int n2), (2, .int z2), (0, .ref V), (1, .int ch)] [.int (Int32.ofInt (-1))] rfl hl (fun ls hl => ?_)
    exact K (some (.int (Int32.ofInt (-1)))) .ireturn 28 ls locs4 hV4 ⟨_, rfl, ⟨by omega, by omega⟩, fun _ j hj => absurd hj (by have hge : n2.toInt ≤ z2.toInt := hge; omega), fun h => absurd h (by omega)⟩ (Or.inl (Or.inl ⟨rfl, rfl, _, rfl⟩)) (pv_row hR rfl)
theorem jy_ix2 (hk : zSTk ST) (ha : zTxa ST a tx) {ch z : Int32} (hn : (sx_tb tx).length < 2 ^ 31) (h0 : 0 ≤ ch.toInt) (h1 : ch.toInt ≤ 255) (hz : z.toInt = 0) : jd_C D (zAS ST) b0 l zJm8 2 48 (fun _ => True) H [.ref a, .int ch, .int z] (fun vo => ∃ r : Int32, vo = some (.int r) ∧ (-1 ≤ r.toInt ∧ r.toInt < (sx_tb tx).length) ∧ (r.toInt < 0 → ∀ j, j < (sx_tb tx).length → (sx_tb tx).getD j 0 ≠ ch.toInt8.toInt32) ∧ (0 ≤ r.toInt → (sx_tb tx).getD r.toInt.toNat 0 = ch.toInt8.toInt32)) := by
  intro p e R s m args below meth c Q ls hF hh _ hl K
  subst hh
  obtain ⟨hx, hb, hml, hown, hts⟩ := id hF.1
  have hR := zJk8.1
  have htx := zTxa_tx hF ha
  obtain ⟨x1, x2, V, x3, x4⟩ := id htx
  refine pv_W hx hb hR 1 1 [(0, .ref a), (1, .int ch), (2, .int z)] [.ref a] rfl hl (fun ls hl => ?_)
  refine jd_call (M := zJm2) (q := (492, 0, 2, 0)) (vs := [.ref a]) (rest := []) zJk2 zJc2 hF (zkM_ok zJcd hts zJls_492 zJm2 rfl).1 (pv_row hR rfl) rfl (Nat.le_of_ble_eq_true rfl) (Nat.le_of_ble_eq_true rfl) (Nat.le_of_ble_eq_true rfl) (Nat.le_of_ble_eq_true rfl) (fun h => by cases h) (Nat.zero_le _) (Nat.zero_le _) (jr htx _ rfl []) (fun _ _ _ => trivial) (fun _ _ _ _ _ => trivial) va_S.rf hl.1 (jc_lat hk ha) (fun vo locs2 hV hp => ?_)
  subst hp
  refine pv_if hF.1 hR .eq 19 23 rfl rfl (fun h => absurd (show (Int32.ofInt 1).toInt = 0 from h) (by decide)) (fun _ => ?_)
  refine pv_W hx hb hR 1 8 [(0, .ref a), (1, .int ch), (2, .int z)] [.ref a] rfl hl (fun ls hl => ?_)
  refine vk_getf hx hb x3 hV hown (hts _ zJf_9) (fun x hx => hx) (pv_row hR rfl) ?_
  refine pv_W hx hb hR 3 14 [(0, .ref a), (1, .int ch), (2, .int z)] [.ref a, .int z, .int ch, .ref V] rfl hl (fun ls hl => ?_)
  refine jd_call (M := zJm0) (q := (505, 0, 0, 0)) (vs := [.ref a]) (rest := [.int z, .int ch, .ref V]) zJk0 zJc0 hF (zkM_ok zJcd hts zJls_505 zJm0 rfl).1 (pv_row hR rfl) rfl (Nat.le_of_ble_eq_true rfl) (Nat.le_of_ble_eq_true rfl) (Nat.le_of_ble_eq_true rfl) (Nat.le_of_ble_eq_true rfl) (fun h => by cases h) (Nat.zero_le _) (Nat.zero_le _) (jr htx _ rfl []) (fun _ _ _ => trivial) (fun _ _ _ _ _ => trivial) hV hl.1 (jc_len hk ha) (fun vo locs3 hV3 hp => ?_)
  subst hp
  refine jd_call (M := zJm9) (q := (637, 1, 9, 4)) (vs := [.ref V, .int ch, .int z, .int (Int32.ofNat (sx_tb tx).length)]) (rest := []) zJk9 zJc9 hF (zkM_ok zJcd hts zJls_637 zJm9 rfl).1 (pv_row hR rfl) rfl (Nat.le_of_ble_eq_true rfl) (Nat.le_of_ble_eq_true rfl) (Nat.le_of_ble_eq_true rfl) (Nat.le_of_ble_eq_true rfl) (fun h => by cases h) (Nat.zero_le _) (Nat.zero_le _) (fun h => absurd rfl h) (jXm x4) jXc hV3 hl.1 (jy_six hn h0 h1 hz rfl) (fun vo locs4 hV4 hp => ?_)
  obtain ⟨r, rfl, hr⟩ := hp
  refine pv_W hx hb hR 1 36 [(0, .ref a), (1, .int ch), (2, .int z)] [.int r] rfl hl (fun ls hl => ?_)
  exact K (some (.int r)) .ireturn 36 ls locs4 hV4 ⟨r, rfl, hr⟩ (Or.inl (Or.inl ⟨rfl, rfl, _, rfl⟩)) (pv_row hR rfl)
theorem jy_ix (hk : zSTk ST) (ha : zTxa ST a tx) {ch : Int32} (hn : (sx_tb tx).length < 2 ^ 31) (h0 : 0 ≤ ch.toInt) (h1 : ch.toInt ≤ 255) : jd_C D (zAS ST) b0 l zJm7 3 70 (fun _ => True) H [.ref a, .int ch] (fun vo => ∃ r : Int32, vo = some (.int r) ∧ (-1 ≤ r.toInt ∧ r.toInt < (sx_tb tx).length) ∧ (r.toInt < 0 → ∀ j, j < (sx_tb tx).length → (sx_tb tx).getD j 0 ≠ ch.toInt8.toInt32) ∧ (0 ≤ r.toInt → (sx_tb tx).getD r.toInt.toNat 0 = ch.toInt8.toInt32)) := by
  intro p e R s m args below meth c Q ls hF hh _ hl K
  subst hh
  obtain ⟨hx, hb, hml, hown, hts⟩ := id hF.1
  have hR := zJk7.1
  have htx := zTxa_tx hF ha
  refine pv_W hx hb hR 3 3 [(0, .ref a), (1, .int ch)] [.int (Int32.ofInt 0), .int ch, .ref a] rfl hl (fun ls hl => ?_)
  refine jd_call (M := zJm8) (q := (633, 0, 8, 2)) (vs := [.ref a, .int ch, .int (Int32.ofInt 0)]) (rest := []) zJk8 zJc8 hF (zkM_ok zJcd hts zJls_633 zJm8 rfl).1 (pv_row hR rfl) rfl (Nat.le_of_ble_eq_true rfl) (Nat.le_of_ble_eq_true rfl) (Nat.le_of_ble_eq_true rfl) (Nat.le_of_ble_eq_true rfl) (fun h => by cases h) (Nat.zero_le _) (Nat.zero_le _) (jr htx _ rfl [.int ch, .int (Int32.ofInt 0)]) (fun _ _ _ => trivial) (fun _ _ _ _ _ => trivial) va_S.rf hl.1 (jy_ix2 hk ha hn h0 h1 (by decide)) (fun vo locs2 hV hp => ?_)
  obtain ⟨r, rfl, hr⟩ := hp
  exact K (some (.int r)) .ireturn 6 ls locs2 hV ⟨r, rfl, hr⟩ (Or.inl (Or.inl ⟨rfl, rfl, _, rfl⟩)) (pv_row hR rfl)
end JX
set_option maxRecDepth 100000 in
theorem zsg_ck : ∀ x : Nat, x < 256 → ((∃ j, j < 10 ∧ (sx_tb zSGT).getD j 0 = (Int32.ofInt (x : Int)).toInt8.toInt32) ↔ zbS ((x : Nat) : Int)) := by decide +kernel
set_option maxRecDepth 100000 in
theorem zi2c_ck : ∀ x : Nat, x < 256 → ((Int32.ofInt ((x : Nat) : Int)).toUInt32 % 65536).toInt32 = Int32.ofInt ((x : Nat) : Int) := by decide +kernel
section PIX
variable {D : va_G} {Wm : Nat} {ST : List (String × String × String × Nat)} {b0 : sx_B} {l : Launch} {Sg : Nat → Option Nat} {M : sx_Me} {bud : sx_Bu} {X : Nat → List pm_V → List pm_V → pm_Mem → Prop} {pc a : Nat} {lv st : List pm_V} {μ : pm_Mem} {d : sx_Da}
theorem zp_idx (hK : zKK ST) (hm : pm_m zMT zCDs M d) (hk : zSTk ST) (ha : zTxa ST a zSGT) {k : Int} (h0 : 0 ≤ k) (h1 : k ≤ 255) {own : String} (hown : M.1.1.cls = own) {idx : Nat} {q5 : zQ5} (hl : zkM zJT own "" (idx, 0, 7, 1) q5 = true) (hrow0 : sx_row M.2.1 pc = some (pc, .i2c, 1)) (hrow : sx_row M.2.1 (pc + 1) = some (pc + 1, .invokevirtual idx, 3)) (hcs : pm_cs st ≤ 8) (hb : 4 ≤ bud.1 ∧ 91 ≤ bud.2.1)
    (kk : ∀ r : Int, (0 ≤ r ∧ zbS k) ∨ (r < 0 ∧ ¬ zbS k) → zW D Wm ST b0 l Sg M bud X (pc + 1 + 3) lv ((0, r) :: st) μ) : zW D Wm ST b0 l Sg M bud X pc lv ((0, k) :: (4, (a : Int)) :: st) μ := by
  intro p e R s m args below meth c Q H locs ls stk hF hP K
  obtain ⟨hx, hb', -, -, -⟩ := id hF.1
  obtain ⟨hH, hM, hV, hL, hS⟩ := hP
  obtain ⟨w0, t0, rfl, g1, g2⟩ := pm_S_cons hS
  obtain ⟨w, t, rfl, f1, f2⟩ := pm_S_cons g2
  obtain rfl : w = .ref a := pm_v_adr f1 rfl
  obtain ⟨y, rfl, hy⟩ := pm_v_int g1 rfl
  have hy : y.toInt = k := hy
  have ey : y = Int32.ofInt ((k.toNat : Nat) : Int) := Int32.toInt_inj.mp (by rw [show ((k.toNat : Nat) : Int) = k by omega, ← hy, Int32.ofInt_toInt])
  have htx := zTxa_tx hF ha
  have hml := (zkM_ok zJcd hF.1.2.2.2.2 hl zJm7 (show sx_at2 zJT 7 = some zJm7 from rfl)).1
  rw [← hown] at hml
  refine lv_i2c hx hb' (pm_row hK hm hrow0) (v := y) (by rw [ey]; exact zi2c_ck k.toNat (by omega)) ?_
  refine jd_call (M := zJm7) (bf := 3) (bl := 70) (q := (idx, 0, 7, 1)) (vs := [.ref a, .int y]) (rest := t) zJk7 zJc7 hF hml (pm_row hK hm hrow) rfl (Nat.le_of_ble_eq_true rfl) (by rw [pm_cs_ok f2]; exact hcs) hb.1 hb.2 (fun h => by cases h) (Nat.zero_le _) (Nat.zero_le _) (fun _ => ?_) (fun _ _ _ => trivial) (fun _ _ _ _ _ => trivial) hV hL.1 (jy_ix hk ha (by rw [zsg_len]; decide) (by omega) (by omega)) (fun vo locs2 hV2 hp => ?_)
  · obtain ⟨cell, c1, c2, c3, -⟩ := htx.1.kept hV.2.1
    exact ⟨a, [.int y], rfl, cell, c1, c2, c3⟩
  · obtain ⟨r, rfl, ⟨r0, r1⟩, hn, hp⟩ := hp
    rw [zsg_len] at r1 hn
    have hck := zsg_ck k.toNat (by omega)
    rw [← ey, show ((k.toNat : Nat) : Int) = k by omega] at hck
    refine kk r.toInt ?_ p e R s m args below meth c Q H locs2 ls _ hF ⟨hH, hM, hV2, hL, ⟨Or.inl ⟨rfl, _, rfl, rfl⟩, f2⟩⟩ K
    by_cases hr : 0 ≤ r.toInt
    · exact Or.inl ⟨hr, hck.mp ⟨r.toInt.toNat, by omega, hp hr⟩⟩
    · refine Or.inr ⟨by omega, fun hs => ?_⟩
      obtain ⟨j, j1, j2⟩ := hck.mpr hs
      exact hn (by omega) j j1 j2
theorem zp_lsw (hK : zKK ST) (hm : pm_m zMT zCDs M d) {dflt : Int} {ps : Array (Int × Int)} {len : Nat} {x off : Int} {tgt : Nat} (hrow : sx_row M.2.1 pc = some (pc, .lookupswitch dflt ps, len)) (hp : (ps.toList.zip (ps.toList.drop 1)).all (fun (a, next) => a.1 < next.1) = true) (ho : Op.lookupswitch.offset ps.toList dflt x = off) (ht : (pc : Int) + off = (tgt : Int)) (kk : zW D Wm ST b0 l Sg M bud X tgt lv st μ) : zW D Wm ST b0 l Sg M bud X pc lv ((0, x) :: st) μ := by
  intro p e R s m args below meth c Q H locs ls stk hF hP K
  obtain ⟨hx, hb', -, -, -⟩ := id hF.1
  obtain ⟨hH, hM, hV, hL, hS⟩ := hP
  obtain ⟨v, t, rfl, k1, k2⟩ := pm_S_cons hS
  obtain ⟨y, rfl, hy⟩ := pm_v_int k1 rfl
  have hy : y.toInt = x := hy
  refine lv_lookup hx hb' (pm_row hK hm hrow) hp (off := off) (tgt := tgt) (by rw [hy]; exact ho) ht ?_
  exact kk p e R s m args below meth c Q H locs ls _ hF ⟨hH, hM, hV, hL, k2⟩ K
end PIX
