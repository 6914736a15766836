/-! rows against codes, quickly: what an instruction looks like in bytes; printed by program (wip/dk/mkdk.py) -/
section ZDK
variable {α β : Type} {code : ByteArray} {p q : Nat}
def dk_b (code : ByteArray) (p x : Nat) : Prop := ∃ h : p < code.size, (code[p]'h).toNat = x
theorem dk_u1 {x : Nat} (h : dk_b code p x) : (Reader.u1 : Decoder Nat) code p = .ok (x, p + 1) := by
  obtain ⟨hp, hx⟩ := h
  show (dite (p < code.size) _ _ : Decoder Nat) code p = _
  rw [dif_pos hp, ← hx]
  rfl
theorem dk_bd {r : Decoder α} {f : α → Decoder β} {a : α} (h : r code p = .ok (a, q)) : (r >>= f) code p = f a code q := by
  show Except.bind (r code p) (fun v => f v.1 code v.2) = _
  rw [h]
  rfl
theorem dk_dec {i : Instr} {n : Nat} (h : Decoder.instr p code p = .ok (i, p + n)) : decode code p = .ok (i, n) := by
  unfold decode
  show Except.bind (Decoder.instr p code p) (fun v => .ok (v.1, v.2 - p)) = _
  rw [h]
  show Except.ok (i, p + n - p) = _
  rw [Nat.add_sub_cancel_left]
theorem dk_hd {a : UInt8} {T : List UInt8} (h : code.data.toList.drop p = a :: T) : dk_b code p a.toNat ∧ code.data.toList.drop (p + 1) = T := by
  have hp : p < code.data.toList.length := by
    have e := congrArg List.length h
    rw [List.length_drop, List.length_cons] at e
    omega
  have e1 := List.drop_eq_getElem_cons hp
  rw [h] at e1
  injection e1 with e2 e3
  refine ⟨⟨hp, ?_⟩, e3.symm⟩
  rw [e2]
  rfl
theorem dk_fu1 {x : Nat} (h : dk_b code p x) (f : Nat → Instr) : ((Reader.u1 : Decoder Nat) >>= fun a => (pure (f a) : Decoder Instr)) code p = .ok (f x, p + 1) := dk_bd (dk_u1 h)
theorem dk_s1 {x : Nat} (h : dk_b code p x) : (Reader.s1 : Decoder Int) code p = .ok (Reader.signed 8 x, p + 1) := by
  show Except.bind ((Reader.u1 : Decoder Nat) code p) (fun v => .ok (Reader.signed 8 v.1, v.2)) = _
  rw [dk_u1 h]
  rfl
theorem dk_u2 {x y : Nat} (h : dk_b code p x) (h1 : dk_b code (p + 1) y) : (Reader.u2 : Decoder Nat) code p = .ok (x * 256 + y, p + 1 + 1) := by
  unfold Reader.u2
  rw [dk_bd (dk_u1 h), dk_bd (dk_u1 h1)]
  rfl
theorem dk_s2 {x y : Nat} (h : dk_b code p x) (h1 : dk_b code (p + 1) y) : (Reader.s2 : Decoder Int) code p = .ok (Reader.signed 16 (x * 256 + y), p + 1 + 1) := by
  show Except.bind ((Reader.u2 : Decoder Nat) code p) (fun v => .ok (Reader.signed 16 v.1, v.2)) = _
  rw [dk_u2 h h1]
  rfl
theorem dk_fs1 {x : Nat} (h : dk_b code p x) (f : Int → Instr) : ((Reader.s1 : Decoder Int) >>= fun a => (pure (f a) : Decoder Instr)) code p = .ok (f (Reader.signed 8 x), p + 1) := dk_bd (dk_s1 h)
theorem dk_fu2 {x y : Nat} (h : dk_b code p x) (h1 : dk_b code (p + 1) y) (f : Nat → Instr) : ((Reader.u2 : Decoder Nat) >>= fun a => (pure (f a) : Decoder Instr)) code p = .ok (f (x * 256 + y), p + 1 + 1) := dk_bd (dk_u2 h h1)
theorem dk_fs2 {x y : Nat} (h : dk_b code p x) (h1 : dk_b code (p + 1) y) (f : Int → Instr) : ((Reader.s2 : Decoder Int) >>= fun a => (pure (f a) : Decoder Instr)) code p = .ok (f (Reader.signed 16 (x * 256 + y)), p + 1 + 1) := dk_bd (dk_s2 h h1)
set_option maxRecDepth 100000 in
theorem dk_o50 (h : dk_b code p 50) : decode code p = .ok (.aaload, 1) := dk_dec ((dk_bd (dk_u1 h)).trans rfl)
set_option maxRecDepth 100000 in
theorem dk_o83 (h : dk_b code p 83) : decode code p = .ok (.aastore, 1) := dk_dec ((dk_bd (dk_u1 h)).trans rfl)
set_option maxRecDepth 100000 in
theorem dk_o1 (h : dk_b code p 1) : decode code p = .ok (.aconst_null, 1) := dk_dec ((dk_bd (dk_u1 h)).trans rfl)
set_option maxRecDepth 100000 in
theorem dk_o176 (h : dk_b code p 176) : decode code p = .ok (.areturn, 1) := dk_dec ((dk_bd (dk_u1 h)).trans rfl)
set_option maxRecDepth 100000 in
theorem dk_o190 (h : dk_b code p 190) : decode code p = .ok (.arraylength, 1) := dk_dec ((dk_bd (dk_u1 h)).trans rfl)
set_option maxRecDepth 100000 in
theorem dk_o89 (h : dk_b code p 89) : decode code p = .ok (.dup, 1) := dk_dec ((dk_bd (dk_u1 h)).trans rfl)
set_option maxRecDepth 100000 in
theorem dk_o92 (h : dk_b code p 92) : decode code p = .ok (.dup2, 1) := dk_dec ((dk_bd (dk_u1 h)).trans rfl)
set_option maxRecDepth 100000 in
theorem dk_o146 (h : dk_b code p 146) : decode code p = .ok (.i2c, 1) := dk_dec ((dk_bd (dk_u1 h)).trans rfl)
set_option maxRecDepth 100000 in
theorem dk_o133 (h : dk_b code p 133) : decode code p = .ok (.i2l, 1) := dk_dec ((dk_bd (dk_u1 h)).trans rfl)
set_option maxRecDepth 100000 in
theorem dk_o96 (h : dk_b code p 96) : decode code p = .ok (.iadd, 1) := dk_dec ((dk_bd (dk_u1 h)).trans rfl)
set_option maxRecDepth 100000 in
theorem dk_o46 (h : dk_b code p 46) : decode code p = .ok (.iaload, 1) := dk_dec ((dk_bd (dk_u1 h)).trans rfl)
set_option maxRecDepth 100000 in
theorem dk_o126 (h : dk_b code p 126) : decode code p = .ok (.iand, 1) := dk_dec ((dk_bd (dk_u1 h)).trans rfl)
set_option maxRecDepth 100000 in
theorem dk_o79 (h : dk_b code p 79) : decode code p = .ok (.iastore, 1) := dk_dec ((dk_bd (dk_u1 h)).trans rfl)
set_option maxRecDepth 100000 in
theorem dk_o108 (h : dk_b code p 108) : decode code p = .ok (.idiv, 1) := dk_dec ((dk_bd (dk_u1 h)).trans rfl)
set_option maxRecDepth 100000 in
theorem dk_o104 (h : dk_b code p 104) : decode code p = .ok (.imul, 1) := dk_dec ((dk_bd (dk_u1 h)).trans rfl)
set_option maxRecDepth 100000 in
theorem dk_o116 (h : dk_b code p 116) : decode code p = .ok (.ineg, 1) := dk_dec ((dk_bd (dk_u1 h)).trans rfl)
set_option maxRecDepth 100000 in
theorem dk_o128 (h : dk_b code p 128) : decode code p = .ok (.ior, 1) := dk_dec ((dk_bd (dk_u1 h)).trans rfl)
set_option maxRecDepth 100000 in
theorem dk_o112 (h : dk_b code p 112) : decode code p = .ok (.irem, 1) := dk_dec ((dk_bd (dk_u1 h)).trans rfl)
set_option maxRecDepth 100000 in
theorem dk_o172 (h : dk_b code p 172) : decode code p = .ok (.ireturn, 1) := dk_dec ((dk_bd (dk_u1 h)).trans rfl)
set_option maxRecDepth 100000 in
theorem dk_o120 (h : dk_b code p 120) : decode code p = .ok (.ishl, 1) := dk_dec ((dk_bd (dk_u1 h)).trans rfl)
set_option maxRecDepth 100000 in
theorem dk_o122 (h : dk_b code p 122) : decode code p = .ok (.ishr, 1) := dk_dec ((dk_bd (dk_u1 h)).trans rfl)
set_option maxRecDepth 100000 in
theorem dk_o100 (h : dk_b code p 100) : decode code p = .ok (.isub, 1) := dk_dec ((dk_bd (dk_u1 h)).trans rfl)
set_option maxRecDepth 100000 in
theorem dk_o124 (h : dk_b code p 124) : decode code p = .ok (.iushr, 1) := dk_dec ((dk_bd (dk_u1 h)).trans rfl)
set_option maxRecDepth 100000 in
theorem dk_o130 (h : dk_b code p 130) : decode code p = .ok (.ixor, 1) := dk_dec ((dk_bd (dk_u1 h)).trans rfl)
set_option maxRecDepth 100000 in
theorem dk_o136 (h : dk_b code p 136) : decode code p = .ok (.l2i, 1) := dk_dec ((dk_bd (dk_u1 h)).trans rfl)
set_option maxRecDepth 100000 in
theorem dk_o97 (h : dk_b code p 97) : decode code p = .ok (.ladd, 1) := dk_dec ((dk_bd (dk_u1 h)).trans rfl)
set_option maxRecDepth 100000 in
theorem dk_o47 (h : dk_b code p 47) : decode code p = .ok (.laload, 1) := dk_dec ((dk_bd (dk_u1 h)).trans rfl)
set_option maxRecDepth 100000 in
theorem dk_o80 (h : dk_b code p 80) : decode code p = .ok (.lastore, 1) := dk_dec ((dk_bd (dk_u1 h)).trans rfl)
set_option maxRecDepth 100000 in
theorem dk_o148 (h : dk_b code p 148) : decode code p = .ok (.lcmp, 1) := dk_dec ((dk_bd (dk_u1 h)).trans rfl)
set_option maxRecDepth 100000 in
theorem dk_o109 (h : dk_b code p 109) : decode code p = .ok (.ldiv, 1) := dk_dec ((dk_bd (dk_u1 h)).trans rfl)
set_option maxRecDepth 100000 in
theorem dk_o105 (h : dk_b code p 105) : decode code p = .ok (.lmul, 1) := dk_dec ((dk_bd (dk_u1 h)).trans rfl)
set_option maxRecDepth 100000 in
theorem dk_o113 (h : dk_b code p 113) : decode code p = .ok (.lrem, 1) := dk_dec ((dk_bd (dk_u1 h)).trans rfl)
set_option maxRecDepth 100000 in
theorem dk_o173 (h : dk_b code p 173) : decode code p = .ok (.lreturn, 1) := dk_dec ((dk_bd (dk_u1 h)).trans rfl)
set_option maxRecDepth 100000 in
theorem dk_o87 (h : dk_b code p 87) : decode code p = .ok (.pop, 1) := dk_dec ((dk_bd (dk_u1 h)).trans rfl)
set_option maxRecDepth 100000 in
theorem dk_o177 (h : dk_b code p 177) : decode code p = .ok (.return_, 1) := dk_dec ((dk_bd (dk_u1 h)).trans rfl)
set_option maxRecDepth 100000 in
theorem dk_o42 (h : dk_b code p 42) : decode code p = .ok (.aload_n 0, 1) := dk_dec ((dk_bd (dk_u1 h)).trans rfl)
set_option maxRecDepth 100000 in
theorem dk_o43 (h : dk_b code p 43) : decode code p = .ok (.aload_n 1, 1) := dk_dec ((dk_bd (dk_u1 h)).trans rfl)
set_option maxRecDepth 100000 in
theorem dk_o44 (h : dk_b code p 44) : decode code p = .ok (.aload_n 2, 1) := dk_dec ((dk_bd (dk_u1 h)).trans rfl)
set_option maxRecDepth 100000 in
theorem dk_o45 (h : dk_b code p 45) : decode code p = .ok (.aload_n 3, 1) := dk_dec ((dk_bd (dk_u1 h)).trans rfl)
set_option maxRecDepth 100000 in
theorem dk_o75 (h : dk_b code p 75) : decode code p = .ok (.astore_n 0, 1) := dk_dec ((dk_bd (dk_u1 h)).trans rfl)
set_option maxRecDepth 100000 in
theorem dk_o76 (h : dk_b code p 76) : decode code p = .ok (.astore_n 1, 1) := dk_dec ((dk_bd (dk_u1 h)).trans rfl)
set_option maxRecDepth 100000 in
theorem dk_o77 (h : dk_b code p 77) : decode code p = .ok (.astore_n 2, 1) := dk_dec ((dk_bd (dk_u1 h)).trans rfl)
set_option maxRecDepth 100000 in
theorem dk_o78 (h : dk_b code p 78) : decode code p = .ok (.astore_n 3, 1) := dk_dec ((dk_bd (dk_u1 h)).trans rfl)
set_option maxRecDepth 100000 in
theorem dk_o26 (h : dk_b code p 26) : decode code p = .ok (.iload_n 0, 1) := dk_dec ((dk_bd (dk_u1 h)).trans rfl)
set_option maxRecDepth 100000 in
theorem dk_o27 (h : dk_b code p 27) : decode code p = .ok (.iload_n 1, 1) := dk_dec ((dk_bd (dk_u1 h)).trans rfl)
set_option maxRecDepth 100000 in
theorem dk_o28 (h : dk_b code p 28) : decode code p = .ok (.iload_n 2, 1) := dk_dec ((dk_bd (dk_u1 h)).trans rfl)
set_option maxRecDepth 100000 in
theorem dk_o29 (h : dk_b code p 29) : decode code p = .ok (.iload_n 3, 1) := dk_dec ((dk_bd (dk_u1 h)).trans rfl)
set_option maxRecDepth 100000 in
theorem dk_o59 (h : dk_b code p 59) : decode code p = .ok (.istore_n 0, 1) := dk_dec ((dk_bd (dk_u1 h)).trans rfl)
set_option maxRecDepth 100000 in
theorem dk_o60 (h : dk_b code p 60) : decode code p = .ok (.istore_n 1, 1) := dk_dec ((dk_bd (dk_u1 h)).trans rfl)
set_option maxRecDepth 100000 in
theorem dk_o61 (h : dk_b code p 61) : decode code p = .ok (.istore_n 2, 1) := dk_dec ((dk_bd (dk_u1 h)).trans rfl)
set_option maxRecDepth 100000 in
theorem dk_o62 (h : dk_b code p 62) : decode code p = .ok (.istore_n 3, 1) := dk_dec ((dk_bd (dk_u1 h)).trans rfl)
set_option maxRecDepth 100000 in
theorem dk_o30 (h : dk_b code p 30) : decode code p = .ok (.lload_n 0, 1) := dk_dec ((dk_bd (dk_u1 h)).trans rfl)
set_option maxRecDepth 100000 in
theorem dk_o31 (h : dk_b code p 31) : decode code p = .ok (.lload_n 1, 1) := dk_dec ((dk_bd (dk_u1 h)).trans rfl)
set_option maxRecDepth 100000 in
theorem dk_o32 (h : dk_b code p 32) : decode code p = .ok (.lload_n 2, 1) := dk_dec ((dk_bd (dk_u1 h)).trans rfl)
set_option maxRecDepth 100000 in
theorem dk_o33 (h : dk_b code p 33) : decode code p = .ok (.lload_n 3, 1) := dk_dec ((dk_bd (dk_u1 h)).trans rfl)
set_option maxRecDepth 100000 in
theorem dk_o63 (h : dk_b code p 63) : decode code p = .ok (.lstore_n 0, 1) := dk_dec ((dk_bd (dk_u1 h)).trans rfl)
set_option maxRecDepth 100000 in
theorem dk_o64 (h : dk_b code p 64) : decode code p = .ok (.lstore_n 1, 1) := dk_dec ((dk_bd (dk_u1 h)).trans rfl)
set_option maxRecDepth 100000 in
theorem dk_o65 (h : dk_b code p 65) : decode code p = .ok (.lstore_n 2, 1) := dk_dec ((dk_bd (dk_u1 h)).trans rfl)
set_option maxRecDepth 100000 in
theorem dk_o66 (h : dk_b code p 66) : decode code p = .ok (.lstore_n 3, 1) := dk_dec ((dk_bd (dk_u1 h)).trans rfl)
set_option maxRecDepth 100000 in
theorem dk_o9 (h : dk_b code p 9) : decode code p = .ok (.lconst 0, 1) := dk_dec ((dk_bd (dk_u1 h)).trans rfl)
set_option maxRecDepth 100000 in
theorem dk_o10 (h : dk_b code p 10) : decode code p = .ok (.lconst 1, 1) := dk_dec ((dk_bd (dk_u1 h)).trans rfl)
set_option maxRecDepth 100000 in
theorem dk_o2 (h : dk_b code p 2) : decode code p = .ok (.iconst (-1), 1) := dk_dec ((dk_bd (dk_u1 h)).trans rfl)
set_option maxRecDepth 100000 in
theorem dk_o3 (h : dk_b code p 3) : decode code p = .ok (.iconst 0, 1) := dk_dec ((dk_bd (dk_u1 h)).trans rfl)
set_option maxRecDepth 100000 in
theorem dk_o4 (h : dk_b code p 4) : decode code p = .ok (.iconst 1, 1) := dk_dec ((dk_bd (dk_u1 h)).trans rfl)
set_option maxRecDepth 100000 in
theorem dk_o5 (h : dk_b code p 5) : decode code p = .ok (.iconst 2, 1) := dk_dec ((dk_bd (dk_u1 h)).trans rfl)
set_option maxRecDepth 100000 in
theorem dk_o6 (h : dk_b code p 6) : decode code p = .ok (.iconst 3, 1) := dk_dec ((dk_bd (dk_u1 h)).trans rfl)
set_option maxRecDepth 100000 in
theorem dk_o7 (h : dk_b code p 7) : decode code p = .ok (.iconst 4, 1) := dk_dec ((dk_bd (dk_u1 h)).trans rfl)
set_option maxRecDepth 100000 in
theorem dk_o8 (h : dk_b code p 8) : decode code p = .ok (.iconst 5, 1) := dk_dec ((dk_bd (dk_u1 h)).trans rfl)
set_option maxRecDepth 100000 in
theorem dk_o25 {x : Nat} (h : dk_b code p 25) (h1 : dk_b code (p + 1) x) : decode code p = .ok (.aload x, 2) := dk_dec ((dk_bd (dk_u1 h)).trans (dk_fu1 h1 (fun a => .aload a)))
set_option maxRecDepth 100000 in
theorem dk_o58 {x : Nat} (h : dk_b code p 58) (h1 : dk_b code (p + 1) x) : decode code p = .ok (.astore x, 2) := dk_dec ((dk_bd (dk_u1 h)).trans (dk_fu1 h1 (fun a => .astore a)))
set_option maxRecDepth 100000 in
theorem dk_o21 {x : Nat} (h : dk_b code p 21) (h1 : dk_b code (p + 1) x) : decode code p = .ok (.iload x, 2) := dk_dec ((dk_bd (dk_u1 h)).trans (dk_fu1 h1 (fun a => .iload a)))
set_option maxRecDepth 100000 in
theorem dk_o54 {x : Nat} (h : dk_b code p 54) (h1 : dk_b code (p + 1) x) : decode code p = .ok (.istore x, 2) := dk_dec ((dk_bd (dk_u1 h)).trans (dk_fu1 h1 (fun a => .istore a)))
set_option maxRecDepth 100000 in
theorem dk_o18 {x : Nat} (h : dk_b code p 18) (h1 : dk_b code (p + 1) x) : decode code p = .ok (.ldc x, 2) := dk_dec ((dk_bd (dk_u1 h)).trans (dk_fu1 h1 (fun a => .ldc a)))
set_option maxRecDepth 100000 in
theorem dk_o16 {x : Nat} (h : dk_b code p 16) (h1 : dk_b code (p + 1) x) : decode code p = .ok (.bipush (Reader.signed 8 x), 2) := dk_dec ((dk_bd (dk_u1 h)).trans (dk_fs1 h1 (fun a => .bipush a)))
set_option maxRecDepth 100000 in
theorem dk_o189 {x y : Nat} (h : dk_b code p 189) (h1 : dk_b code (p + 1) x) (h2 : dk_b code (p + 1 + 1) y) : decode code p = .ok (.anewarray (x * 256 + y), 3) := dk_dec ((dk_bd (dk_u1 h)).trans (dk_fu2 h1 h2 (fun a => .anewarray a)))
set_option maxRecDepth 100000 in
theorem dk_o180 {x y : Nat} (h : dk_b code p 180) (h1 : dk_b code (p + 1) x) (h2 : dk_b code (p + 1 + 1) y) : decode code p = .ok (.getfield (x * 256 + y), 3) := dk_dec ((dk_bd (dk_u1 h)).trans (dk_fu2 h1 h2 (fun a => .getfield a)))
set_option maxRecDepth 100000 in
theorem dk_o178 {x y : Nat} (h : dk_b code p 178) (h1 : dk_b code (p + 1) x) (h2 : dk_b code (p + 1 + 1) y) : decode code p = .ok (.getstatic (x * 256 + y), 3) := dk_dec ((dk_bd (dk_u1 h)).trans (dk_fu2 h1 h2 (fun a => .getstatic a)))
set_option maxRecDepth 100000 in
theorem dk_o183 {x y : Nat} (h : dk_b code p 183) (h1 : dk_b code (p + 1) x) (h2 : dk_b code (p + 1 + 1) y) : decode code p = .ok (.invokespecial (x * 256 + y), 3) := dk_dec ((dk_bd (dk_u1 h)).trans (dk_fu2 h1 h2 (fun a => .invokespecial a)))
set_option maxRecDepth 100000 in
theorem dk_o184 {x y : Nat} (h : dk_b code p 184) (h1 : dk_b code (p + 1) x) (h2 : dk_b code (p + 1 + 1) y) : decode code p = .ok (.invokestatic (x * 256 + y), 3) := dk_dec ((dk_bd (dk_u1 h)).trans (dk_fu2 h1 h2 (fun a => .invokestatic a)))
set_option maxRecDepth 100000 in
theorem dk_o182 {x y : Nat} (h : dk_b code p 182) (h1 : dk_b code (p + 1) x) (h2 : dk_b code (p + 1 + 1) y) : decode code p = .ok (.invokevirtual (x * 256 + y), 3) := dk_dec ((dk_bd (dk_u1 h)).trans (dk_fu2 h1 h2 (fun a => .invokevirtual a)))
set_option maxRecDepth 100000 in
theorem dk_o19 {x y : Nat} (h : dk_b code p 19) (h1 : dk_b code (p + 1) x) (h2 : dk_b code (p + 1 + 1) y) : decode code p = .ok (.ldc_w (x * 256 + y), 3) := dk_dec ((dk_bd (dk_u1 h)).trans (dk_fu2 h1 h2 (fun a => .ldc_w a)))
set_option maxRecDepth 100000 in
theorem dk_o20 {x y : Nat} (h : dk_b code p 20) (h1 : dk_b code (p + 1) x) (h2 : dk_b code (p + 1 + 1) y) : decode code p = .ok (.ldc2_w (x * 256 + y), 3) := dk_dec ((dk_bd (dk_u1 h)).trans (dk_fu2 h1 h2 (fun a => .ldc2_w a)))
set_option maxRecDepth 100000 in
theorem dk_o187 {x y : Nat} (h : dk_b code p 187) (h1 : dk_b code (p + 1) x) (h2 : dk_b code (p + 1 + 1) y) : decode code p = .ok (.new (x * 256 + y), 3) := dk_dec ((dk_bd (dk_u1 h)).trans (dk_fu2 h1 h2 (fun a => .new a)))
set_option maxRecDepth 100000 in
theorem dk_o181 {x y : Nat} (h : dk_b code p 181) (h1 : dk_b code (p + 1) x) (h2 : dk_b code (p + 1 + 1) y) : decode code p = .ok (.putfield (x * 256 + y), 3) := dk_dec ((dk_bd (dk_u1 h)).trans (dk_fu2 h1 h2 (fun a => .putfield a)))
set_option maxRecDepth 100000 in
theorem dk_o167 {x y : Nat} (h : dk_b code p 167) (h1 : dk_b code (p + 1) x) (h2 : dk_b code (p + 1 + 1) y) : decode code p = .ok (.goto (Reader.signed 16 (x * 256 + y)), 3) := dk_dec ((dk_bd (dk_u1 h)).trans (dk_fs2 h1 h2 (fun a => .goto a)))
set_option maxRecDepth 100000 in
theorem dk_o199 {x y : Nat} (h : dk_b code p 199) (h1 : dk_b code (p + 1) x) (h2 : dk_b code (p + 1 + 1) y) : decode code p = .ok (.ifnonnull (Reader.signed 16 (x * 256 + y)), 3) := dk_dec ((dk_bd (dk_u1 h)).trans (dk_fs2 h1 h2 (fun a => .ifnonnull a)))
set_option maxRecDepth 100000 in
theorem dk_o198 {x y : Nat} (h : dk_b code p 198) (h1 : dk_b code (p + 1) x) (h2 : dk_b code (p + 1 + 1) y) : decode code p = .ok (.ifnull (Reader.signed 16 (x * 256 + y)), 3) := dk_dec ((dk_bd (dk_u1 h)).trans (dk_fs2 h1 h2 (fun a => .ifnull a)))
set_option maxRecDepth 100000 in
theorem dk_o17 {x y : Nat} (h : dk_b code p 17) (h1 : dk_b code (p + 1) x) (h2 : dk_b code (p + 1 + 1) y) : decode code p = .ok (.sipush (Reader.signed 16 (x * 256 + y)), 3) := dk_dec ((dk_bd (dk_u1 h)).trans (dk_fs2 h1 h2 (fun a => .sipush a)))
set_option maxRecDepth 100000 in
theorem dk_o153 {x y : Nat} (h : dk_b code p 153) (h1 : dk_b code (p + 1) x) (h2 : dk_b code (p + 1 + 1) y) : decode code p = .ok (.ifCond .eq (Reader.signed 16 (x * 256 + y)), 3) := dk_dec ((dk_bd (dk_u1 h)).trans (dk_fs2 h1 h2 (fun a => .ifCond .eq a)))
set_option maxRecDepth 100000 in
theorem dk_o154 {x y : Nat} (h : dk_b code p 154) (h1 : dk_b code (p + 1) x) (h2 : dk_b code (p + 1 + 1) y) : decode code p = .ok (.ifCond .ne (Reader.signed 16 (x * 256 + y)), 3) := dk_dec ((dk_bd (dk_u1 h)).trans (dk_fs2 h1 h2 (fun a => .ifCond .ne a)))
set_option maxRecDepth 100000 in
theorem dk_o155 {x y : Nat} (h : dk_b code p 155) (h1 : dk_b code (p + 1) x) (h2 : dk_b code (p + 1 + 1) y) : decode code p = .ok (.ifCond .lt (Reader.signed 16 (x * 256 + y)), 3) := dk_dec ((dk_bd (dk_u1 h)).trans (dk_fs2 h1 h2 (fun a => .ifCond .lt a)))
set_option maxRecDepth 100000 in
theorem dk_o156 {x y : Nat} (h : dk_b code p 156) (h1 : dk_b code (p + 1) x) (h2 : dk_b code (p + 1 + 1) y) : decode code p = .ok (.ifCond .ge (Reader.signed 16 (x * 256 + y)), 3) := dk_dec ((dk_bd (dk_u1 h)).trans (dk_fs2 h1 h2 (fun a => .ifCond .ge a)))
set_option maxRecDepth 100000 in
theorem dk_o157 {x y : Nat} (h : dk_b code p 157) (h1 : dk_b code (p + 1) x) (h2 : dk_b code (p + 1 + 1) y) : decode code p = .ok (.ifCond .gt (Reader.signed 16 (x * 256 + y)), 3) := dk_dec ((dk_bd (dk_u1 h)).trans (dk_fs2 h1 h2 (fun a => .ifCond .gt a)))
set_option maxRecDepth 100000 in
theorem dk_o158 {x y : Nat} (h : dk_b code p 158) (h1 : dk_b code (p + 1) x) (h2 : dk_b code (p + 1 + 1) y) : decode code p = .ok (.ifCond .le (Reader.signed 16 (x * 256 + y)), 3) := dk_dec ((dk_bd (dk_u1 h)).trans (dk_fs2 h1 h2 (fun a => .ifCond .le a)))
set_option maxRecDepth 100000 in
theorem dk_o159 {x y : Nat} (h : dk_b code p 159) (h1 : dk_b code (p + 1) x) (h2 : dk_b code (p + 1 + 1) y) : decode code p = .ok (.if_icmp .eq (Reader.signed 16 (x * 256 + y)), 3) := dk_dec ((dk_bd (dk_u1 h)).trans (dk_fs2 h1 h2 (fun a => .if_icmp .eq a)))
set_option maxRecDepth 100000 in
theorem dk_o160 {x y : Nat} (h : dk_b code p 160) (h1 : dk_b code (p + 1) x) (h2 : dk_b code (p + 1 + 1) y) : decode code p = .ok (.if_icmp .ne (Reader.signed 16 (x * 256 + y)), 3) := dk_dec ((dk_bd (dk_u1 h)).trans (dk_fs2 h1 h2 (fun a => .if_icmp .ne a)))
set_option maxRecDepth 100000 in
theorem dk_o161 {x y : Nat} (h : dk_b code p 161) (h1 : dk_b code (p + 1) x) (h2 : dk_b code (p + 1 + 1) y) : decode code p = .ok (.if_icmp .lt (Reader.signed 16 (x * 256 + y)), 3) := dk_dec ((dk_bd (dk_u1 h)).trans (dk_fs2 h1 h2 (fun a => .if_icmp .lt a)))
set_option maxRecDepth 100000 in
theorem dk_o162 {x y : Nat} (h : dk_b code p 162) (h1 : dk_b code (p + 1) x) (h2 : dk_b code (p + 1 + 1) y) : decode code p = .ok (.if_icmp .ge (Reader.signed 16 (x * 256 + y)), 3) := dk_dec ((dk_bd (dk_u1 h)).trans (dk_fs2 h1 h2 (fun a => .if_icmp .ge a)))
set_option maxRecDepth 100000 in
theorem dk_o163 {x y : Nat} (h : dk_b code p 163) (h1 : dk_b code (p + 1) x) (h2 : dk_b code (p + 1 + 1) y) : decode code p = .ok (.if_icmp .gt (Reader.signed 16 (x * 256 + y)), 3) := dk_dec ((dk_bd (dk_u1 h)).trans (dk_fs2 h1 h2 (fun a => .if_icmp .gt a)))
set_option maxRecDepth 100000 in
theorem dk_o164 {x y : Nat} (h : dk_b code p 164) (h1 : dk_b code (p + 1) x) (h2 : dk_b code (p + 1 + 1) y) : decode code p = .ok (.if_icmp .le (Reader.signed 16 (x * 256 + y)), 3) := dk_dec ((dk_bd (dk_u1 h)).trans (dk_fs2 h1 h2 (fun a => .if_icmp .le a)))
set_option maxRecDepth 100000 in
theorem dk_o132 {x y : Nat} (h : dk_b code p 132) (h1 : dk_b code (p + 1) x) (h2 : dk_b code (p + 1 + 1) y) : decode code p = .ok (.iinc x (Reader.signed 8 y), 3) := dk_dec ((dk_bd (dk_u1 h)).trans ((dk_bd (dk_u1 h1)).trans (dk_fs1 h2 (fun b => .iinc x b))))
set_option maxRecDepth 100000 in
theorem dk_t4 (h : dk_b code p 188) (h1 : dk_b code (p + 1) 4) : decode code p = .ok (.newarray .boolean, 2) := dk_dec ((dk_bd (dk_u1 h)).trans ((dk_bd (dk_u1 h1)).trans rfl))
set_option maxRecDepth 100000 in
theorem dk_t5 (h : dk_b code p 188) (h1 : dk_b code (p + 1) 5) : decode code p = .ok (.newarray .char, 2) := dk_dec ((dk_bd (dk_u1 h)).trans ((dk_bd (dk_u1 h1)).trans rfl))
set_option maxRecDepth 100000 in
theorem dk_t6 (h : dk_b code p 188) (h1 : dk_b code (p + 1) 6) : decode code p = .ok (.newarray .float, 2) := dk_dec ((dk_bd (dk_u1 h)).trans ((dk_bd (dk_u1 h1)).trans rfl))
set_option maxRecDepth 100000 in
theorem dk_t7 (h : dk_b code p 188) (h1 : dk_b code (p + 1) 7) : decode code p = .ok (.newarray .double, 2) := dk_dec ((dk_bd (dk_u1 h)).trans ((dk_bd (dk_u1 h1)).trans rfl))
set_option maxRecDepth 100000 in
theorem dk_t8 (h : dk_b code p 188) (h1 : dk_b code (p + 1) 8) : decode code p = .ok (.newarray .byte, 2) := dk_dec ((dk_bd (dk_u1 h)).trans ((dk_bd (dk_u1 h1)).trans rfl))
set_option maxRecDepth 100000 in
theorem dk_t9 (h : dk_b code p 188) (h1 : dk_b code (p + 1) 9) : decode code p = .ok (.newarray .short, 2) := dk_dec ((dk_bd (dk_u1 h)).trans ((dk_bd (dk_u1 h1)).trans rfl))
set_option maxRecDepth 100000 in
theorem dk_t10 (h : dk_b code p 188) (h1 : dk_b code (p + 1) 10) : decode code p = .ok (.newarray .int, 2) := dk_dec ((dk_bd (dk_u1 h)).trans ((dk_bd (dk_u1 h1)).trans rfl))
set_option maxRecDepth 100000 in
theorem dk_t11 (h : dk_b code p 188) (h1 : dk_b code (p + 1) 11) : decode code p = .ok (.newarray .long, 2) := dk_dec ((dk_bd (dk_u1 h)).trans ((dk_bd (dk_u1 h1)).trans rfl))
def zq1 (n : Nat) (L : List UInt8) (o : Nat) : Bool := match L with
  | a :: _ => Nat.beq a.toNat o && Nat.beq n 1
  | [] => false
def zq2 (n : Nat) (L : List UInt8) (o k : Nat) : Bool := match L with
  | a :: b :: _ => Nat.beq a.toNat o && Nat.beq b.toNat k && Nat.beq n 2
  | _ => false
def zq2s (n : Nat) (L : List UInt8) (o : Nat) (v : Int) : Bool := match L with
  | a :: b :: _ => Nat.beq a.toNat o && decide (Reader.signed 8 b.toNat = v) && Nat.beq n 2
  | _ => false
def zq3 (n : Nat) (L : List UInt8) (o k : Nat) : Bool := match L with
  | a :: b :: c :: _ => Nat.beq a.toNat o && Nat.beq (b.toNat * 256 + c.toNat) k && Nat.beq n 3
  | _ => false
def zq3s (n : Nat) (L : List UInt8) (o : Nat) (v : Int) : Bool := match L with
  | a :: b :: c :: _ => Nat.beq a.toNat o && decide (Reader.signed 16 (b.toNat * 256 + c.toNat) = v) && Nat.beq n 3
  | _ => false
def zq3i (n : Nat) (L : List UInt8) (k : Nat) (v : Int) : Bool := match L with
  | a :: b :: c :: _ => Nat.beq a.toNat 132 && Nat.beq b.toNat k && decide (Reader.signed 8 c.toNat = v) && Nat.beq n 3
  | _ => false
theorem zq1_ok {n o : Nat} {L : List UInt8} (hL : code.data.toList.drop p = L) (h : zq1 n L o = true) : n = 1 ∧ dk_b code p o := by
  unfold zq1 at h
  split at h
  · simp only [Bool.and_eq_true, Nat.beq_eq] at h
    exact ⟨h.2, h.1 ▸ (dk_hd hL).1⟩
  · cases h
theorem zq2_ok {n o k : Nat} {L : List UInt8} (hL : code.data.toList.drop p = L) (h : zq2 n L o k = true) : n = 2 ∧ dk_b code p o ∧ dk_b code (p + 1) k := by
  unfold zq2 at h
  split at h
  · simp only [Bool.and_eq_true, Nat.beq_eq] at h
    have h1 := dk_hd hL
    have h2 := dk_hd h1.2
    exact ⟨h.2, h.1.1 ▸ h1.1, h.1.2 ▸ h2.1⟩
  · cases h
theorem zq2s_ok {n o : Nat} {v : Int} {L : List UInt8} (hL : code.data.toList.drop p = L) (h : zq2s n L o v = true) : ∃ x, n = 2 ∧ dk_b code p o ∧ dk_b code (p + 1) x ∧ Reader.signed 8 x = v := by
  unfold zq2s at h
  split at h
  · simp only [Bool.and_eq_true, Nat.beq_eq, decide_eq_true_eq] at h
    have h1 := dk_hd hL
    have h2 := dk_hd h1.2
    exact ⟨_, h.2, h.1.1 ▸ h1.1, h2.1, h.1.2⟩
  · cases h
theorem zq3_ok {n o k : Nat} {L : List UInt8} (hL : code.data.toList.drop p = L) (h : zq3 n L o k = true) : ∃ x y, n = 3 ∧ dk_b code p o ∧ dk_b code (p + 1) x ∧ dk_b code (p + 1 + 1) y ∧ x * 256 + y = k := by
  unfold zq3 at h
  split at h
  · simp only [Bool.and_eq_true, Nat.beq_eq] at h
    have h1 := dk_hd hL
    have h2 := dk_hd h1.2
    have h3 := dk_hd h2.2
    exact ⟨_, _, h.2, h.1.1 ▸ h1.1, h2.1, h3.1, h.1.2⟩
  · cases h
theorem zq3s_ok {n o : Nat} {v : Int} {L : List UInt8} (hL : code.data.toList.drop p = L) (h : zq3s n L o v = true) : ∃ x y, n = 3 ∧ dk_b code p o ∧ dk_b code (p + 1) x ∧ dk_b code (p + 1 + 1) y ∧ Reader.signed 16 (x * 256 + y) = v := by
  unfold zq3s at h
  split at h
  · simp only [Bool.and_eq_true, Nat.beq_eq, decide_eq_true_eq] at h
    have h1 := dk_hd hL
    have h2 := dk_hd h1.2
    have h3 := dk_hd h2.2
    exact ⟨_, _, h.2, h.1.1 ▸ h1.1, h2.1, h3.1, h.1.2⟩
  · cases h
theorem zq3i_ok {n k : Nat} {v : Int} {L : List UInt8} (hL : code.data.toList.drop p = L) (h : zq3i n L k v = true) : ∃ y, n = 3 ∧ dk_b code p 132 ∧ dk_b code (p + 1) k ∧ dk_b code (p + 1 + 1) y ∧ Reader.signed 8 y = v := by
  unfold zq3i at h
  split at h
  · simp only [Bool.and_eq_true, Nat.beq_eq, decide_eq_true_eq] at h
    have h1 := dk_hd hL
    have h2 := dk_hd h1.2
    have h3 := dk_hd h2.2
    exact ⟨_, h.2, h.1.1.1 ▸ h1.1, h.1.1.2 ▸ h2.1, h3.1, h.1.2⟩
  · cases h
def zcN (c : ClassFile.Cond) : Nat := match c with
  | .eq => 0
  | .ne => 1
  | .lt => 2
  | .ge => 3
  | .gt => 4
  | .le => 5
def ztN (c : ArrayType) : Nat := match c with
  | .boolean => 4
  | .char => 5
  | .float => 6
  | .double => 7
  | .byte => 8
  | .short => 9
  | .int => 10
  | .long => 11
set_option maxRecDepth 100000 in
def zMt (i : Instr) (n : Nat) (L : List UInt8) : Bool := match i with
  | .aaload => zq1 n L 50
  | .aastore => zq1 n L 83
  | .aconst_null => zq1 n L 1
  | .areturn => zq1 n L 176
  | .arraylength => zq1 n L 190
  | .dup => zq1 n L 89
  | .dup2 => zq1 n L 92
  | .i2c => zq1 n L 146
  | .i2l => zq1 n L 133
  | .iadd => zq1 n L 96
  | .iaload => zq1 n L 46
  | .iand => zq1 n L 126
  | .iastore => zq1 n L 79
  | .idiv => zq1 n L 108
  | .imul => zq1 n L 104
  | .ineg => zq1 n L 116
  | .ior => zq1 n L 128
  | .irem => zq1 n L 112
  | .ireturn => zq1 n L 172
  | .ishl => zq1 n L 120
  | .ishr => zq1 n L 122
  | .isub => zq1 n L 100
  | .iushr => zq1 n L 124
  | .ixor => zq1 n L 130
  | .l2i => zq1 n L 136
  | .ladd => zq1 n L 97
  | .laload => zq1 n L 47
  | .lastore => zq1 n L 80
  | .lcmp => zq1 n L 148
  | .ldiv => zq1 n L 109
  | .lmul => zq1 n L 105
  | .lrem => zq1 n L 113
  | .lreturn => zq1 n L 173
  | .pop => zq1 n L 87
  | .return_ => zq1 n L 177
  | .aload_n k => zq1 n L (42 + k.val)
  | .astore_n k => zq1 n L (75 + k.val)
  | .iload_n k => zq1 n L (26 + k.val)
  | .istore_n k => zq1 n L (59 + k.val)
  | .lload_n k => zq1 n L (30 + k.val)
  | .lstore_n k => zq1 n L (63 + k.val)
  | .lconst k => zq1 n L (9 + k.val)
  | .iconst v => decide (-1 ≤ v) && decide (v ≤ 5) && zq1 n L (v + 3).toNat
  | .aload k => zq2 n L 25 k
  | .astore k => zq2 n L 58 k
  | .iload k => zq2 n L 21 k
  | .istore k => zq2 n L 54 k
  | .ldc k => zq2 n L 18 k
  | .bipush v => zq2s n L 16 v
  | .anewarray k => zq3 n L 189 k
  | .getfield k => zq3 n L 180 k
  | .getstatic k => zq3 n L 178 k
  | .invokespecial k => zq3 n L 183 k
  | .invokestatic k => zq3 n L 184 k
  | .invokevirtual k => zq3 n L 182 k
  | .ldc_w k => zq3 n L 19 k
  | .ldc2_w k => zq3 n L 20 k
  | .new k => zq3 n L 187 k
  | .putfield k => zq3 n L 181 k
  | .goto v => zq3s n L 167 v
  | .ifnonnull v => zq3s n L 199 v
  | .ifnull v => zq3s n L 198 v
  | .sipush v => zq3s n L 17 v
  | .ifCond c v => zq3s n L (153 + zcN c) v
  | .if_icmp c v => zq3s n L (159 + zcN c) v
  | .iinc k v => zq3i n L k v
  | .newarray t => zq2 n L 188 (ztN t)
  | _ => false
set_option maxRecDepth 100000 in
theorem zMt_ok {i : Instr} {n : Nat} {L : List UInt8} (hL : code.data.toList.drop p = L) (h : zMt i n L = true) : decode code p = .ok (i, n) := by
  cases i
  case aaload => obtain ⟨rfl, h1⟩ := zq1_ok hL h; exact dk_o50 h1
  case aastore => obtain ⟨rfl, h1⟩ := zq1_ok hL h; exact dk_o83 h1
  case aconst_null => obtain ⟨rfl, h1⟩ := zq1_ok hL h; exact dk_o1 h1
  case areturn => obtain ⟨rfl, h1⟩ := zq1_ok hL h; exact dk_o176 h1
  case arraylength => obtain ⟨rfl, h1⟩ := zq1_ok hL h; exact dk_o190 h1
  case dup => obtain ⟨rfl, h1⟩ := zq1_ok hL h; exact dk_o89 h1
  case dup2 => obtain ⟨rfl, h1⟩ := zq1_ok hL h; exact dk_o92 h1
  case i2c => obtain ⟨rfl, h1⟩ := zq1_ok hL h; exact dk_o146 h1
  case i2l => obtain ⟨rfl, h1⟩ := zq1_ok hL h; exact dk_o133 h1
  case iadd => obtain ⟨rfl, h1⟩ := zq1_ok hL h; exact dk_o96 h1
  case iaload => obtain ⟨rfl, h1⟩ := zq1_ok hL h; exact dk_o46 h1
  case iand => obtain ⟨rfl, h1⟩ := zq1_ok hL h; exact dk_o126 h1
  case iastore => obtain ⟨rfl, h1⟩ := zq1_ok hL h; exact dk_o79 h1
  case idiv => obtain ⟨rfl, h1⟩ := zq1_ok hL h; exact dk_o108 h1
  case imul => obtain ⟨rfl, h1⟩ := zq1_ok hL h; exact dk_o104 h1
  case ineg => obtain ⟨rfl, h1⟩ := zq1_ok hL h; exact dk_o116 h1
  case ior => obtain ⟨rfl, h1⟩ := zq1_ok hL h; exact dk_o128 h1
  case irem => obtain ⟨rfl, h1⟩ := zq1_ok hL h; exact dk_o112 h1
  case ireturn => obtain ⟨rfl, h1⟩ := zq1_ok hL h; exact dk_o172 h1
  case ishl => obtain ⟨rfl, h1⟩ := zq1_ok hL h; exact dk_o120 h1
  case ishr => obtain ⟨rfl, h1⟩ := zq1_ok hL h; exact dk_o122 h1
  case isub => obtain ⟨rfl, h1⟩ := zq1_ok hL h; exact dk_o100 h1
  case iushr => obtain ⟨rfl, h1⟩ := zq1_ok hL h; exact dk_o124 h1
  case ixor => obtain ⟨rfl, h1⟩ := zq1_ok hL h; exact dk_o130 h1
  case l2i => obtain ⟨rfl, h1⟩ := zq1_ok hL h; exact dk_o136 h1
  case ladd => obtain ⟨rfl, h1⟩ := zq1_ok hL h; exact dk_o97 h1
  case laload => obtain ⟨rfl, h1⟩ := zq1_ok hL h; exact dk_o47 h1
  case lastore => obtain ⟨rfl, h1⟩ := zq1_ok hL h; exact dk_o80 h1
  case lcmp => obtain ⟨rfl, h1⟩ := zq1_ok hL h; exact dk_o148 h1
  case ldiv => obtain ⟨rfl, h1⟩ := zq1_ok hL h; exact dk_o109 h1
  case lmul => obtain ⟨rfl, h1⟩ := zq1_ok hL h; exact dk_o105 h1
  case lrem => obtain ⟨rfl, h1⟩ := zq1_ok hL h; exact dk_o113 h1
  case lreturn => obtain ⟨rfl, h1⟩ := zq1_ok hL h; exact dk_o173 h1
  case pop => obtain ⟨rfl, h1⟩ := zq1_ok hL h; exact dk_o87 h1
  case return_ => obtain ⟨rfl, h1⟩ := zq1_ok hL h; exact dk_o177 h1
  case aload_n k =>
    obtain ⟨k, hk⟩ := k
    obtain ⟨rfl, h1⟩ := zq1_ok hL h
    have hh : k = 0 ∨ k = 1 ∨ k = 2 ∨ k = 3 := by omega
    rcases hh with rfl | rfl | rfl | rfl
    · exact dk_o42 h1
    · exact dk_o43 h1
    · exact dk_o44 h1
    · exact dk_o45 h1
  case astore_n k =>
    obtain ⟨k, hk⟩ := k
    obtain ⟨rfl, h1⟩ := zq1_ok hL h
    have hh : k = 0 ∨ k = 1 ∨ k = 2 ∨ k = 3 := by omega
    rcases hh with rfl | rfl | rfl | rfl
    · exact dk_o75 h1
    · exact dk_o76 h1
    · exact dk_o77 h1
    · exact dk_o78 h1
  case iload_n k =>
    obtain ⟨k, hk⟩ := k
    obtain ⟨rfl, h1⟩ := zq1_ok hL h
    have hh : k = 0 ∨ k = 1 ∨ k = 2 ∨ k = 3 := by omega
    rcases hh with rfl | rfl | rfl | rfl
    · exact dk_o26 h1
    · exact dk_o27 h1
    · exact dk_o28 h1
    · exact dk_o29 h1
  case istore_n k =>
    obtain ⟨k, hk⟩ := k
    obtain ⟨rfl, h1⟩ := zq1_ok hL h
    have hh : k = 0 ∨ k = 1 ∨ k = 2 ∨ k = 3 := by omega
    rcases hh with rfl | rfl | rfl | rfl
    · exact dk_o59 h1
    · exact dk_o60 h1
    · exact dk_o61 h1
    · exact dk_o62 h1
  case lload_n k =>
    obtain ⟨k, hk⟩ := k
    obtain ⟨rfl, h1⟩ := zq1_ok hL h
    have hh : k = 0 ∨ k = 1 ∨ k = 2 ∨ k = 3 := by omega
    rcases hh with rfl | rfl | rfl | rfl
    · exact dk_o30 h1
    · exact dk_o31 h1
    · exact dk_o32 h1
    · exact dk_o33 h1
  case lstore_n k =>
    obtain ⟨k, hk⟩ := k
    obtain ⟨rfl, h1⟩ := zq1_ok hL h
    have hh : k = 0 ∨ k = 1 ∨ k = 2 ∨ k = 3 := by omega
    rcases hh with rfl | rfl | rfl | rfl
    · exact dk_o63 h1
    · exact dk_o64 h1
    · exact dk_o65 h1
    · exact dk_o66 h1
  case lconst k =>
    obtain ⟨k, hk⟩ := k
    obtain ⟨rfl, h1⟩ := zq1_ok hL h
    have hh : k = 0 ∨ k = 1 := by omega
    rcases hh with rfl | rfl
    · exact dk_o9 h1
    · exact dk_o10 h1
  case iconst v =>
    have h : (decide (-1 ≤ v) && decide (v ≤ 5) && zq1 n L (v + 3).toNat) = true := h
    simp only [Bool.and_eq_true, decide_eq_true_eq] at h
    obtain ⟨⟨a, b⟩, h⟩ := h
    obtain ⟨rfl, h1⟩ := zq1_ok hL h
    have hh : v = -1 ∨ v = 0 ∨ v = 1 ∨ v = 2 ∨ v = 3 ∨ v = 4 ∨ v = 5 := by omega
    rcases hh with rfl | rfl | rfl | rfl | rfl | rfl | rfl
    · exact dk_o2 h1
    · exact dk_o3 h1
    · exact dk_o4 h1
    · exact dk_o5 h1
    · exact dk_o6 h1
    · exact dk_o7 h1
    · exact dk_o8 h1
  case aload k => obtain ⟨rfl, h1, h2⟩ := zq2_ok hL h; exact dk_o25 h1 h2
  case astore k => obtain ⟨rfl, h1, h2⟩ := zq2_ok hL h; exact dk_o58 h1 h2
  case iload k => obtain ⟨rfl, h1, h2⟩ := zq2_ok hL h; exact dk_o21 h1 h2
  case istore k => obtain ⟨rfl, h1, h2⟩ := zq2_ok hL h; exact dk_o54 h1 h2
  case ldc k => obtain ⟨rfl, h1, h2⟩ := zq2_ok hL h; exact dk_o18 h1 h2
  case bipush v => obtain ⟨x, rfl, h1, h2, rfl⟩ := zq2s_ok hL h; exact dk_o16 h1 h2
  case anewarray k => obtain ⟨x, y, rfl, h1, h2, h3, rfl⟩ := zq3_ok hL h; exact dk_o189 h1 h2 h3
  case getfield k => obtain ⟨x, y, rfl, h1, h2, h3, rfl⟩ := zq3_ok hL h; exact dk_o180 h1 h2 h3
  case getstatic k => obtain ⟨x, y, rfl, h1, h2, h3, rfl⟩ := zq3_ok hL h; exact dk_o178 h1 h2 h3
  case invokespecial k => obtain ⟨x, y, rfl, h1, h2, h3, rfl⟩ := zq3_ok hL h; exact dk_o183 h1 h2 h3
  case invokestatic k => obtain ⟨x, y, rfl, h1, h2, h3, rfl⟩ := zq3_ok hL h; exact dk_o184 h1 h2 h3
  case invokevirtual k => obtain ⟨x, y, rfl, h1, h2, h3, rfl⟩ := zq3_ok hL h; exact dk_o182 h1 h2 h3
  case ldc_w k => obtain ⟨x, y, rfl, h1, h2, h3, rfl⟩ := zq3_ok hL h; exact dk_o19 h1 h2 h3
  case ldc2_w k => obtain ⟨x, y, rfl, h1, h2, h3, rfl⟩ := zq3_ok hL h; exact dk_o20 h1 h2 h3
  case new k => obtain ⟨x, y, rfl, h1, h2, h3, rfl⟩ := zq3_ok hL h; exact dk_o187 h1 h2 h3
  case putfield k => obtain ⟨x, y, rfl, h1, h2, h3, rfl⟩ := zq3_ok hL h; exact dk_o181 h1 h2 h3
  case goto v => obtain ⟨x, y, rfl, h1, h2, h3, rfl⟩ := zq3s_ok hL h; exact dk_o167 h1 h2 h3
  case ifnonnull v => obtain ⟨x, y, rfl, h1, h2, h3, rfl⟩ := zq3s_ok hL h; exact dk_o199 h1 h2 h3
  case ifnull v => obtain ⟨x, y, rfl, h1, h2, h3, rfl⟩ := zq3s_ok hL h; exact dk_o198 h1 h2 h3
  case sipush v => obtain ⟨x, y, rfl, h1, h2, h3, rfl⟩ := zq3s_ok hL h; exact dk_o17 h1 h2 h3
  case ifCond c v =>
    cases c
    case eq => obtain ⟨x, y, rfl, h1, h2, h3, rfl⟩ := zq3s_ok hL h; exact dk_o153 h1 h2 h3
    case ne => obtain ⟨x, y, rfl, h1, h2, h3, rfl⟩ := zq3s_ok hL h; exact dk_o154 h1 h2 h3
    case lt => obtain ⟨x, y, rfl, h1, h2, h3, rfl⟩ := zq3s_ok hL h; exact dk_o155 h1 h2 h3
    case ge => obtain ⟨x, y, rfl, h1, h2, h3, rfl⟩ := zq3s_ok hL h; exact dk_o156 h1 h2 h3
    case gt => obtain ⟨x, y, rfl, h1, h2, h3, rfl⟩ := zq3s_ok hL h; exact dk_o157 h1 h2 h3
    case le => obtain ⟨x, y, rfl, h1, h2, h3, rfl⟩ := zq3s_ok hL h; exact dk_o158 h1 h2 h3
  case if_icmp c v =>
    cases c
    case eq => obtain ⟨x, y, rfl, h1, h2, h3, rfl⟩ := zq3s_ok hL h; exact dk_o159 h1 h2 h3
    case ne => obtain ⟨x, y, rfl, h1, h2, h3, rfl⟩ := zq3s_ok hL h; exact dk_o160 h1 h2 h3
    case lt => obtain ⟨x, y, rfl, h1, h2, h3, rfl⟩ := zq3s_ok hL h; exact dk_o161 h1 h2 h3
    case ge => obtain ⟨x, y, rfl, h1, h2, h3, rfl⟩ := zq3s_ok hL h; exact dk_o162 h1 h2 h3
    case gt => obtain ⟨x, y, rfl, h1, h2, h3, rfl⟩ := zq3s_ok hL h; exact dk_o163 h1 h2 h3
    case le => obtain ⟨x, y, rfl, h1, h2, h3, rfl⟩ := zq3s_ok hL h; exact dk_o164 h1 h2 h3
  case iinc k v => obtain ⟨y, rfl, h1, h2, h3, rfl⟩ := zq3i_ok hL h; exact dk_o132 h1 h2 h3
  case newarray t =>
    cases t
    case boolean => obtain ⟨rfl, h1, h2⟩ := zq2_ok hL h; exact dk_t4 h1 h2
    case char => obtain ⟨rfl, h1, h2⟩ := zq2_ok hL h; exact dk_t5 h1 h2
    case float => obtain ⟨rfl, h1, h2⟩ := zq2_ok hL h; exact dk_t6 h1 h2
    case double => obtain ⟨rfl, h1, h2⟩ := zq2_ok hL h; exact dk_t7 h1 h2
    case byte => obtain ⟨rfl, h1, h2⟩ := zq2_ok hL h; exact dk_t8 h1 h2
    case short => obtain ⟨rfl, h1, h2⟩ := zq2_ok hL h; exact dk_t9 h1 h2
    case int => obtain ⟨rfl, h1, h2⟩ := zq2_ok hL h; exact dk_t10 h1 h2
    case long => obtain ⟨rfl, h1, h2⟩ := zq2_ok hL h; exact dk_t11 h1 h2
  all_goals exact absurd h Bool.false_ne_true
def zdK (n : Nat) (L : List UInt8) (k : List UInt8 → Bool) : Bool := match n, L with
  | 0, L => k L
  | n + 1, _ :: L => zdK n L k
  | _ + 1, [] => k []
theorem zdK_ok : ∀ (n : Nat) (L : List UInt8) (k : List UInt8 → Bool), zdK n L k = k (L.drop n)
  | 0, L, k => rfl
  | n + 1, _ :: L, k => by show zdK n L k = _; rw [zdK_ok n L k]; rfl
  | n + 1, [], k => rfl
def zgo (code : ByteArray) (rows : List (Nat × Instr × Nat)) (L : List UInt8) (pos : Nat) : Bool := match rows with
  | [] => true
  | r :: rs => Nat.beq r.1 pos && (zMt r.2.1 r.2.2 L || decide (decode code r.1 = .ok r.2)) && zdK r.2.2 L (fun T => zgo code rs T (r.1 + r.2.2))
theorem zgo_ok : ∀ (rows : List (Nat × Instr × Nat)) (L : List UInt8) (pos : Nat), code.data.toList.drop pos = L → zgo code rows L pos = true → ∀ r ∈ rows, decode code r.1 = .ok r.2
  | [], _, _, _, _ => fun r hr => absurd hr List.not_mem_nil
  | r :: rs, L, pos, hL, h => by
    have h : (Nat.beq r.1 pos && (zMt r.2.1 r.2.2 L || decide (decode code r.1 = .ok r.2)) && zdK r.2.2 L (fun T => zgo code rs T (r.1 + r.2.2))) = true := h
    rw [zdK_ok] at h
    simp only [Bool.and_eq_true, Nat.beq_eq] at h
    obtain ⟨⟨h1, h2⟩, h3⟩ := h
    have hL2 : code.data.toList.drop (r.1 + r.2.2) = L.drop r.2.2 := by rw [← hL, List.drop_drop, h1]
    have ih := zgo_ok rs (L.drop r.2.2) (r.1 + r.2.2) hL2 h3
    intro x hx
    rcases List.mem_cons.mp hx with rfl | hx
    · rcases Bool.or_eq_true_iff.mp h2 with h2 | h2
      · exact zMt_ok (by rw [h1]; exact hL) h2
      · exact of_decide_eq_true h2
    · exact ih x hx
def zgoR (code : ByteArray) (R : List (List (Nat × Instr × Nat))) : Bool := zgo code R.flatten code.data.toList 0
theorem zgoR_ok {R : List (List (Nat × Instr × Nat))} (h : zgoR code R = true) : zkDe code R = true := by
  have h1 := zgo_ok R.flatten code.data.toList 0 (by rw [List.drop_zero]) h
  unfold zkDe
  refine List.all_eq_true.mpr (fun c hc => List.all_eq_true.mpr (fun q hq => decide_eq_true (h1 q (List.mem_flatten.mpr ⟨c, hc, hq⟩))))
end ZDK
