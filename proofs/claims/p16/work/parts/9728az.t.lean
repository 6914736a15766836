/-! pm: getstatic of a table -/
section PCP
variable {D : va_G} {Wm : Nat} {ST : List (String × String × String × Nat)} {b0 : sx_B} {l : Launch} {Sg : Nat → Option Nat} {M : sx_Me} {bud : sx_Bu} {X : Nat → List pm_V → List pm_V → pm_Mem → Prop} {pc : Nat} {lv st : List pm_V} {μ : pm_Mem} {d : sx_Da}
theorem zp_gst (hK : zKK ST) (hm : pm_m zMT zCDs M d) {own idx r : Nat} {C n dS : String} {d0 : sx_Da} (hg : sx_gtok zCDs (zAS ST) zTB Sg (own, idx, (C, n, dS), r)) (hd : zCDs[own]? = some d0) (hcl : d0.1 = M.1.1.cls) (hrow : sx_row M.2.1 pc = some (pc, .getstatic idx, 3)) (kk : zW D Wm ST b0 l Sg M bud X (pc + 3) lv ((2, (r : Int)) :: st) μ) : zW D Wm ST b0 l Sg M bud X pc lv st μ := by
  intro p e R s m args below meth c Q H locs ls stk hF hP K
  obtain ⟨hx, hb, hml, hown', hts⟩ := id hF.1
  obtain ⟨a, ha, hSg, hlk, hsk⟩ := hg
  obtain ⟨hH, hM, hV, hL, hS⟩ := hP
  refine va_gets hx hb (sx_ZS_va hF.2.2.2.2.2.2.2.2.2.2 ha hsk) hV hown' (hts _ (hcl ▸ hlk d0 hd)) (fun x hx => hx) (pm_row hK hm hrow) ?_
  exact kk p e R s m args below meth c Q H locs ls _ hF ⟨hH, hM, hV, hL, ⟨Or.inr (Or.inr (Or.inl ⟨rfl, a, rfl, hSg⟩)), hS⟩⟩ K
end PCP
