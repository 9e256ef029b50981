/-! THE LAW: numbers kept ahead of a call -/
noncomputable def lx_oA : List (Nat × ai_X) := (1, (1, 0)) :: (73, (73, 0)) :: lx_jo
