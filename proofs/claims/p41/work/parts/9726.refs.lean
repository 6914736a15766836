/-! counts: the reference; walks printed by program (wip/p30/pmgen.py) and filled by hand -/
section ZHW
variable {D : va_G} {Wm : Nat} {ST : List (String × String × String × Nat)} {b0 : sx_B} {l : Launch} {Sg : Nat → Option Nat} {bud : sx_Bu} {μ : pm_Mem} {B0 : Nat → Prop} {J : (Nat → Option Nat) → Heap → Prop}
set_option maxRecDepth 100000 in
theorem zz206_0 : (List.range 160).all (fun k => match sx_ft zG206 k with
  | some t => Nat.beq t.1 0 && decide (t.2.1 ≤ 0) && decide (0 ≤ t.2.2)
  | none => false) = true := by decide +kernel
theorem zT_z206 (hT : zTJ none μ) {i : Int} (h0 : 0 ≤ i) (h1 : i < 160) : zTJ none (pm_up μ 206 i 0) := by
  have h := List.all_eq_true.mp zz206_0 i.toNat (List.mem_range.mpr (by omega))
  split at h
  · rename_i t ht
    simp only [Bool.and_eq_true, decide_eq_true_eq] at h
    obtain ⟨⟨a1, a2⟩, a3⟩ := h
    have a1 := Nat.eq_of_beq_eq_true a1
    obtain ⟨t0, lo, hi⟩ := t
    have a1 : t0 = 0 := a1
    subst a1
    exact ⟨zTy_up hT.1 (r := 206) (g := zG206) rfl ht (by omega) a2 a3, zJ_upn rfl hT.2⟩
  · cases h
end ZHW
