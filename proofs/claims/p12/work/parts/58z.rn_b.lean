/-! a name of a text that isn't here -/
noncomputable def rn_b : Int × Int := (ai_lo32, ai_hi32)
