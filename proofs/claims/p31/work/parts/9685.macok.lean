/-! this claim's own hooks hold -/
theorem zmac1_ok {FT : Nat → List Int → Int} {D : va_G} {ST : List (String × String × String × Nat)} {l : Launch} {B0 : Nat → Prop} {Sg : Nat → Option Nat} (V : Nat) (hw : sx_Wd zNR zRT2 B0 Sg) (hK : zKK ST) {aW aS : Nat} (hTX : zSTt ST aW aS) : sx_macok FT D zCl (sx_fz V zRT2) (zAS ST) zTB (sx_bW zRT2 V B0 Sg, pm_J D zRT2 Sg zGm zJ) l zMT (zmac1 V) := by
  intro h M bud pc st X hM hh hpc hmac p e R s m args below meth c Q Sg0 ρ0 hF hW
  obtain ⟨k110, k111, k112⟩ := zHhk M hM h hh
  unfold zmac1 at hmac
  split at hmac
  · rename_i E C N U FA L S nc ns h3
    obtain ⟨rfl, h6⟩ := k110 h3
    obtain rfl : pc = 87 := by rw [← hpc, h6]
    split at hmac
    · rename_i a b ha hb
      split at hmac
      · rename_i hc
        cases hmac
        exact zm110 ha hb hc hF (hW _ List.mem_cons_self)
      · cases hmac
    · cases hmac
  · rename_i E C N U FA L S nc ns h3
    obtain ⟨rfl, h6⟩ := k111 h3
    obtain rfl : pc = 15 := by rw [← hpc, h6]
    split at hmac
    · rename_i a ha h1
      split at hmac
      · rename_i hc
        cases hmac
        exact zm111 hw hK ha h1 hc hF (hW _ List.mem_cons_self)
      · cases hmac
    · cases hmac
  · rename_i E C N U FA L S nc ns h3
    obtain ⟨rfl, h6⟩ := k112 h3
    obtain rfl : pc = 67 := by rw [← hpc, h6]
    split at hmac
    · rename_i a ha
      split at hmac
      · rename_i hc
        cases hmac
        exact zm112 hTX ha hc hF (hW _ List.mem_cons_self)
      · cases hmac
    · cases hmac
  · cases hmac
