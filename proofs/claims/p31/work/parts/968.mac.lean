/-! this claim's own hooks: 110 what is left of a set behind a part of it (threads); 111 the rounds of an hour (goesBy); 112 a sign among signs (readToken) -/
noncomputable def zmac1 (V : Nat) : sx_Mac := fun h M bud pc st => match h.2.1, st with
  | 110, (((E, C, N, U), FA), (L, S), nc, ns) => match sx_lk L 2, sx_lk L 3 with
    | some a, some b => if (Nat.beq a.1 0 && Nat.beq b.1 0 && sx_ge2 E C (sx_addC (sx_sub a.2 b.2) (-1)) && sx_ge2 E C b.2 && sx_ge2 E C (sx_sub (255, []) a.2)) = true then some [(92, (((E ++ [(0, 1, 255)], C, N, U), FA), (L, (0, (0, [(E.length, 1)])) :: S), nc, ns))] else none
    | _, _ => none
  | 111, (((E, C, N, U), FA), (L, S), nc, ns) => match sx_lk L 0, sx_lk L 1, S, nc, ns with
    | some a, some (0, (0, [])), [], 0, 0 => if (sx_carg zRT2 E C a (2, 205, 0) && sx_bit V 206 && Nat.ble FA.2.2 250 && Nat.ble 1 bud.1 && Nat.ble 24 bud.2.1) = true then some [(90, (((E, C, N, U), ([], [], FA.2.2)), ([(0, a)], []), 0, 0))] else none
    | _, _, _, _, _ => none
  | 112, (((E, C, N, U), FA), (L, S), nc, ns) => match sx_lk L 3 with
    | some a => if (Nat.beq a.1 0 && sx_ge2 E C a.2 && sx_ge2 E C (sx_sub (255, []) a.2) && Nat.ble 4 bud.1 && Nat.ble 91 bud.2.1 && Nat.ble (sx_cs8 S) 8 && Nat.ble nc bud.2.2.1 && Nat.ble ns bud.2.2.2) = true then some [(74, (((E ++ [(0, -1, 20)], C, N, U), FA), (L, (0, (0, [(E.length, 1)])) :: S), nc, ns))] else none
    | none => none
  | _, _ => none
/-- the contracts in an order in which each stands on those ahead of it: text and cheaply, which the law alone calls, are left out -/
def zCT2 : List (List sx_Ct) := [[zC0, zC1, zC2, zC3, zC4, zC5, zC6, zC7, zC8, zC9, zC10, zC11, zC12, zC13, zC14, zC15], [zC16, zC17, zC18, zC19, zC20, zC21, zC22, zC23, zC24, zC25, zC26, zC27, zC28, zC29, zC30, zC31], [zC32, zC33, zC34, zC35, zC36, zC37, zC38, zC39, zC40, zC41, zC42, zC43, zC44, zC45, zC46, zC47], [zC48, zC49, zC50, zC51, zC52, zC53, zC54, zC55, zC56, zC57, zC58, zC59, zC60, zC61, zC62, zC63], [zC64, zC65, zC66, zC67, zC68, zC69, zC70, zC71, zC72, zC73, zC74, zC75, zC76, zC77, zC78, zC79], [zC80, zC81, zC82, zC83, zC84, zC85, zC86, zC87, zC88, zC89, zC90, zC91, zC92, zC93, zC94, zC95], [zC96, zC97, zC98, zC99, zC100, zC101, zC102, zC103, zC104, zC105, zC106, zC107, zC108, zC109, zC110, zC111], [zC112, zC113, zC114, zC115, zC116, zC117, zC118, zC119, zC120, zC121, zC122, zC123, zC124, zC125, zC126, zC127], [zC128, zC129, zC130, zC131, zC132, zC133, zC134, zC135, zC136, zC137, zC138, zC139, zC140, zC141, zC142, zC143], [zC144, zC145, zC146, zC147, zC148, zC149, zC150, zC151, zC152, zC153, zC154, zC155, zC156, zC157, zC158, zC159], [zC160, zC161, zC162, zC163, zC164, zC165, zC166, zC167, zC168, zC169, zC170, zC171, zC172, zC173, zC174, zC175], [zC176, zC177, zC178, zC179, zC180, zC181, zC182, zC183, zC184, zC185, zC186, zC187, zC188, zC189, zC190, zC191], [zC192, zC193, zC194, zC195, zC196, zC197, zC198, zC199, zC200, zC201, zC202, zC203, zC204, zC205, zC206, zC207], [zC208, zC209, zC210, zC211, zC212, zC213, zC214, zC215, zC216, zC217, zC218, zC219, zC220, zC221, zC222, zC223], [zC224, zC225, zC226, zC227, zC228, zC229, zC230, zC231, zC232, zC233, zC234, zC235, zC236, zC237, zC238, zC239], [zC240, zC241, zC242, zC243, zC244, zC245, zC246, zC247, zC248, zC249, zC250, zC251, zC252, zC253, zC254, zC255], [zC256, zC257, zC258, zC259, zC260, zC261, zC262, zC263, zC264, zC265, zC266, zC267, zC268, zC269, zC270, zC271], [zC272, zC273, zC274, zC275, zC276, zC277, zC278, zC279, zC280, zC281, zC282, zC283, zC284, zC285, zC286, zC287], [zC288, zC289, zC290, zC291, zC292, zC293, zC294, zC295, zC296, zC297, zC298, zC299, zC300, zC301, zC302, zC303], [zC304, zC305, zC306, zC307, zC308, zC309, zC310, zC311, zC312, zC313, zC314, zC315, zC316, zC317, zC318, zC319], [zC320, zC321, zC322, zC323, zC324, zC325, zC326, zC327, zC328, zC329, zC330, zC331, zC332, zC333, zC334, zC335], [zC336, zC337, zC338, zC339, zC340, zC341, zC342, zC343, zC344, zC345, zC346, zC347, zC348, zC349, zC350, zC351], [zC352, zC353, zC354, zC355, zC356, zC357, zC358, zC359, zC360, zC361, zC362, zC363, zC364, zC365, zC366, zC367], [zC368, zC369, zC370, zC371, zC372, zC373, zC374, zC375, zC376, zC377, zC378, zC379, zC380, zC381, zC382, zC383], [zC384, zC385, zC386, zC387, zC388, zC389, zC390, zC391, zC392, zC393, zC394, zC395, zC396, zC397, zC398, zC399], [zC400, zC401, zC402, zC403, zC404, zC405, zC406, zC407, zC408, zC409, zC410, zC411, zC412, zC413, zC414, zC415], [zC416, zC417, zC418, zC419, zC420, zC421, zC422, zC423, zC424, zC425, zC426, zC427, zC428, zC429, zC429, zC431], [zC432, zC433, zC434, zC435, zC436, zC437, zC438, zC439, zC440, zC441, zC442, zC443, zC444, zC445, zC446, zC447], [zC448, zC449, zC450, zC451, zC452, zC453, zC454, zC455, zC456, zC457, zC457, zC459, zC460, zC461, zC462, zC463], [zC464, zC465, zC466, zC467, zC468, zC469, zC470, zC471, zC472, zC473, zC474, zC475, zC476, zC477, zC478, zC479], [zC480, zC481, zC482, zC483, zC484, zC485, zC486, zC487, zC488, zC489, zC490, zC491, zC492, zC493, zC494, zC495]]
noncomputable def zrun3 (j fuel : Nat) : Bool := match sx_at2 zCT2 j with
  | some ct => sx_crun zCl zRT2 sxCJ zMT zCDs (sx_mac2 (zmac1 ct.2.2.2.2.2) zGT zRT2 ct.2.2.2.2.2 zMT zCDs zCT2 250 j) 250 fuel ct
  | none => false
/-- what is left of a set -/
theorem zleft {x y : Int32} (h0 : 0 ≤ y.toInt) (h1 : y.toInt < x.toInt) (h2 : x.toInt ≤ 255) : 1 ≤ (x &&& (y ^^^ Int32.ofInt (-1))).toInt ∧ (x &&& (y ^^^ Int32.ofInt (-1))).toInt ≤ 255 := by
  have ex : x = Int32.ofInt x.toInt := (Int32.ofInt_toInt x).symm
  have ey : y = Int32.ofInt y.toInt := (Int32.ofInt_toInt y).symm
  have bx := zbv (x := x.toInt) (by omega) (by omega)
  have bY := zbv (x := y.toInt) (by omega) (by omega)
  rw [← ex] at bx
  rw [← ey] at bY
  generalize hX : x.toBitVec = X at bx
  generalize hY : y.toBitVec = Y at bY
  have eb : (x &&& (y ^^^ Int32.ofInt (-1))).toBitVec = X &&& ~~~Y := by
    rw [Int32.toBitVec_and, Int32.toBitVec_xor, hX, hY, show (Int32.ofInt (-1)).toBitVec = BitVec.allOnes 32 by decide, BitVec.xor_allOnes]
  have hle : (X &&& ~~~Y).toNat ≤ X.toNat := by rw [BitVec.toNat_and]; exact Nat.and_le_left
  have hne : (X &&& ~~~Y).toNat ≠ 0 := fun hz => by
    have hz2 : X &&& ~~~Y = 0#32 := BitVec.eq_of_toNat_eq (by rw [hz]; rfl)
    have hxy : X &&& Y = X := by
      apply BitVec.eq_of_getLsbD_eq
      intro i hi
      have := congrArg (fun v : BitVec 32 => v.getLsbD i) hz2
      simp [hi] at this ⊢
      intro hx
      exact this hx
    have : X.toNat ≤ Y.toNat := by
      rw [← hxy, BitVec.toNat_and]
      exact Nat.and_le_right
    omega
  have e : (x &&& (y ^^^ Int32.ofInt (-1))).toInt = ((X &&& ~~~Y).toNat : Int) := by
    show (x &&& (y ^^^ Int32.ofInt (-1))).toBitVec.toInt = _
    rw [eb, BitVec.toInt_eq_toNat_cond, if_pos (by omega)]
  omega
section MC
variable {FT : Nat → List Int → Int} {D : va_G} {RT : Nat → Option sx_Rg} {ST : List (String × String × String × Nat)} {b0 : sx_B} {l : Launch}
theorem zlk_int {ρ : List Value} {nL : Nat} {ls : Array Slot} {stk : List Value} {L : List (Nat × sx_AV)} {S : List sx_AV} {i : Nat} {a : sx_AV} (hF : sx_Fr ρ nL ls stk L S) (h : sx_lk L i = some a) (ha : Nat.beq a.1 0 = true) : ∃ x : Int32, ls[i]? = some (.val (.int x)) ∧ sx_lf ρ a.2 = some x.toInt := by
  obtain ⟨v, v1, v2⟩ := hF.2.2.1 _ (sx_lk_mem h)
  have ha := Nat.eq_of_beq_eq_true ha
  rcases v1 with ⟨-, x, rfl, hx⟩ | ⟨k1, -⟩ | ⟨k1, -⟩ | ⟨k1, -⟩
  · exact ⟨x, v2, hx⟩
  · have k1 : a.1 = 1 := k1
    omega
  · have k1 : a.1 = 2 := k1
    omega
  · have k1 : a.1 = 3 := k1
    omega
theorem zm110 {bud : sx_Bu} {E : List sx_Ty} {C N : List sx_LF} {U : List (Nat × List sx_LF × Nat)} {FA : sx_FA} {L : List (Nat × sx_AV)} {S : List sx_AV} {nc ns : Nat} {a b : sx_AV} (ha : sx_lk L 2 = some a) (hb0 : sx_lk L 3 = some b) (hc : (Nat.beq a.1 0 && Nat.beq b.1 0 && sx_ge2 E C (sx_addC (sx_sub a.2 b.2) (-1)) && sx_ge2 E C b.2 && sx_ge2 E C (sx_sub (255, []) a.2)) = true)
    {p : Program} {e : Env} {R : Room} {s : State} {m : MethodId} {args : Array Value} {below : List Frame} {meth : Method} {c : Code} {Q : State → Prop} {Sg0 : Nat → Option Nat} {ρ0 : List Value} (hF : sx_Frm D zCl (zAS ST) zTB b0 zM187 bud p R s m args meth c)
    (hW : sx_W FT D zCl RT b0 6 p l e R s m args below meth c Q Sg0 ρ0 92 (((E ++ [(0, 1, 255)], C, N, U), FA), (L, (0, (0, [(E.length, 1)])) :: S), nc, ns)) : sx_W FT D zCl RT b0 6 p l e R s m args below meth c Q Sg0 ρ0 87 (((E, C, N, U), FA), (L, S), nc, ns) := by
  intro Sg H ρ ls stk locs hle hpre hP
  obtain ⟨hH, hG, hFr, hV⟩ := hP
  simp only [Bool.and_eq_true] at hc
  obtain ⟨⟨⟨⟨c1, c2⟩, c3⟩, c4⟩, c5⟩ := hc
  obtain ⟨x, x1, x2⟩ := zlk_int hFr ha c1
  obtain ⟨y, y1, y2⟩ := zlk_int hFr hb0 c2
  have g1 := sx_ge2_ok hG.1 hG.2.1 (sx_addC_ok (c := -1) (sx_sub_ok x2 y2)) c3
  have g2 := sx_ge2_ok hG.1 hG.2.1 y2 c4
  have g3 := sx_ge2_ok hG.1 hG.2.1 (sx_sub_ok (f := (255, [])) (n := 255) rfl x2) c5
  obtain ⟨z1, z2⟩ := zleft (x := x) (y := y) g2 (by omega) (by omega)
  obtain ⟨hx, hb, -, -, -⟩ := id hF.1
  have hR := (zMk187).1
  refine lv_iload_n hx hb (pv_row hR rfl) rfl x1 ?_
  refine lv_iload_n hx hb (pv_row hR rfl) rfl y1 ?_
  refine lv_iconst hx hb (pv_row hR rfl) rfl ?_
  refine lv_ixor hx hb (pv_row hR rfl) ?_
  refine lv_iand hx hb (pv_row hR rfl) ?_
  generalize x &&& (y ^^^ Int32.ofInt (-1)) = w at z1 z2 ⊢
  have hG2 := sx_G_ext (t := (0, 1, 255)) (v := .int w) hG (Or.inl ⟨rfl, w, rfl, z1, z2⟩)
  have hF3 := sx_Fr_ext (ρ2 := [Value.int w]) hFr
  have hs : (ρ ++ [Value.int w])[E.length]? = some (.int w) := sx_iv_new hG.1.1
  exact hW Sg H (ρ ++ [.int w]) ls (.int w :: stk) locs hle (hpre.trans (List.prefix_append ρ _)) ⟨hH, hG2, ⟨hF3.1, hF3.2.1, hF3.2.2.1, sx_int_av (sx_sym_ok (by unfold sx_iv; rw [hs])), hF3.2.2.2⟩, hV⟩
set_option maxRecDepth 100000 in
theorem zi2c0 : ∀ k : Nat, k < 256 → ((Int32.ofNat k).toUInt32 % 65536).toInt32 = Int32.ofNat k := by decide +kernel
theorem zi2c {x : Int32} (h0 : 0 ≤ x.toInt) (h1 : x.toInt ≤ 255) : (x.toUInt32 % 65536).toInt32 = x := by
  have e : x = Int32.ofNat x.toInt.toNat := Int32.toInt_inj.mp (by rw [Int32.toInt_ofNat_of_lt (by omega)]; omega)
  rw [e]
  exact zi2c0 _ (by omega)
theorem zm112 {bud : sx_Bu} {aW aS : Nat} (hTX : zSTt ST aW aS) {E : List sx_Ty} {C N : List sx_LF} {U : List (Nat × List sx_LF × Nat)} {FA : sx_FA} {L : List (Nat × sx_AV)} {S : List sx_AV} {nc ns : Nat} {a : sx_AV} (ha : sx_lk L 3 = some a) (hc : (Nat.beq a.1 0 && sx_ge2 E C a.2 && sx_ge2 E C (sx_sub (255, []) a.2) && Nat.ble 4 bud.1 && Nat.ble 91 bud.2.1 && Nat.ble (sx_cs8 S) 8 && Nat.ble nc bud.2.2.1 && Nat.ble ns bud.2.2.2) = true)
    {p : Program} {e : Env} {R : Room} {s : State} {m : MethodId} {args : Array Value} {below : List Frame} {meth : Method} {c : Code} {Q : State → Prop} {Sg0 : Nat → Option Nat} {ρ0 : List Value} (hF : sx_Frm D zCl (zAS ST) zTB b0 zM237 bud p R s m args meth c)
    (hW : sx_W FT D zCl RT b0 4 p l e R s m args below meth c Q Sg0 ρ0 74 (((E ++ [(0, -1, 20)], C, N, U), FA), (L, (0, (0, [(E.length, 1)])) :: S), nc, ns)) : sx_W FT D zCl RT b0 4 p l e R s m args below meth c Q Sg0 ρ0 67 (((E, C, N, U), FA), (L, S), nc, ns) := by
  intro Sg H ρ ls stk locs hle hpre hP
  obtain ⟨hH, hG, hFr, hV⟩ := hP
  simp only [Bool.and_eq_true] at hc
  obtain ⟨⟨⟨⟨⟨⟨⟨c1, c2⟩, c3⟩, c4⟩, c5⟩, c6⟩, c7⟩, c8⟩ := hc
  obtain ⟨x, x1, x2⟩ := zlk_int hFr ha c1
  have g1 := sx_ge2_ok hG.1 hG.2.1 x2 c2
  have g2 := sx_ge2_ok hG.1 hG.2.1 (sx_sub_ok (f := (255, [])) (n := 255) rfl x2) c3
  have c4 := Nat.le_of_ble_eq_true c4
  have c5 := Nat.le_of_ble_eq_true c5
  have c6 := Nat.le_of_ble_eq_true c6
  obtain ⟨hx, hb, -, hown, hts⟩ := id hF.1
  have hR := (zMk237).1
  have hta : zTxa ST aS zSGT := ⟨_, _, 118, hTX.2.2, rfl⟩
  have htx := zTxa_tx hF hta
  refine va_ldcS hx hb hown (sx_ZS_tx (k := 118) hF.2.2.2.2.2.2.2.2.2.2 hTX.2.2 rfl).1 (pv_row hR rfl) ?_
  refine lv_iload_n hx hb (pv_row hR rfl) rfl x1 ?_
  refine lv_i2c hx hb (pv_row hR rfl) (zi2c g1 (by omega)) ?_
  refine jd_call (M := zJm7) (bf := 3) (bl := 70) (q := (121, 0, 7, 1)) (vs := [.ref aS, .int x]) (rest := stk) zJk7 zJc7 hF (zkM_ok zJcd hts zJlr_121 zJm7 rfl).1 (pv_row hR rfl) rfl (Nat.le_of_ble_eq_true rfl) (by rw [sx_cs8_ok hFr.2.2.2]; exact c6) c4 c5 (fun h => by cases h) (Nat.le_of_ble_eq_true c7) (Nat.le_of_ble_eq_true c8) (fun _ => ?_) (fun _ _ _ => trivial) (fun _ _ _ _ _ => trivial) hV.1 hFr.1 (jc_ix hTX.1 hta (by rw [zsg_len]; decide) g1 (by omega)) (fun vo locs2 hV2 hp => ?_)
  · obtain ⟨cell, d1, d2, d3, -⟩ := htx.1.kept hV.1.2.1
    exact ⟨aS, [.int x], rfl, cell, d1, d2, d3⟩
  · obtain ⟨w, rfl, w1, w2⟩ := hp
    rw [zsg_len] at w2
    have hG2 := sx_G_ext (t := (0, -1, 20)) (v := .int w) hG (Or.inl ⟨rfl, w, rfl, w1, by show w.toInt ≤ (20 : Int); omega⟩)
    have hF3 := sx_Fr_ext (ρ2 := [Value.int w]) hFr
    have hs : (ρ ++ [Value.int w])[E.length]? = some (.int w) := sx_iv_new hG.1.1
    exact hW Sg H (ρ ++ [.int w]) ls (.int w :: stk) locs2 hle (hpre.trans (List.prefix_append ρ _)) ⟨hH, hG2, ⟨hF3.1, hF3.2.1, hF3.2.2.1, sx_int_av (sx_sym_ok (by unfold sx_iv; rw [hs])), hF3.2.2.2⟩, ⟨hV2, hV.2⟩⟩
end MC
