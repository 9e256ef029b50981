/-! THE LAW: its loop -/
noncomputable def lx_SA : List ai_V := [.inr (.inr (some (some 0))), .inl (1, 0)]
noncomputable def lx_SB : List ai_V := [.inl (381, 0), .inl (382, 0)]
noncomputable def lx_oB : List (Nat × ai_X) := (1, (1, 0)) :: (73, (73, 0)) :: (381, (381, -10)) :: (382, (1, 0)) :: lx_jo
noncomputable def lx_at (o : Option (List ai_F)) (v j : Nat) (S' : List ai_V) (pc : Nat) (q : List (Nat × ai_X)) : Bool := match o with
  | some fs => fs.all (fun f => (Nat.beq f.2.2.2.2.2.1 0 && Nat.beq f.2.2.2.2.2.2 0) && lx_to v j S' pc q f)
  | none => false
theorem lx_at_ok {o : Option (List ai_F)} {v j pc : Nat} {S' : List ai_V} {q : List (Nat × ai_X)} (h : lx_at o v j S' pc q = true) : ∃ fs, o = some fs ∧ ∀ f ∈ fs, (f.2.2.2.2.2.1 = 0 ∧ f.2.2.2.2.2.2 = 0) ∧ lx_to v j S' pc q f = true := by
  unfold lx_at at h
  split at h
  · refine ⟨_, rfl, fun f hf => ?_⟩
    have g := List.all_eq_true.mp h f hf
    simp only [Bool.and_eq_true] at g
    exact ⟨⟨Nat.eq_of_beq_eq_true g.1.1, Nat.eq_of_beq_eq_true g.1.2⟩, g.2⟩
  · cases h
noncomputable def lx_rA (v : Nat) : Option (List ai_F) := lx_sg [] (fun q => Nat.beq q 26) false 23 lx_L [] (lx_G v 0)
noncomputable def lx_rB (v : Nat) : Option (List ai_F) := lx_sg [] (fun q => Nat.beq q 30) false 27 lx_L [.inl (381, 0), .inl (1, 0)] (hg_new (lx_G v 0) (0, 5120))
noncomputable def lx_rC (v : Nat) : Option (List ai_F) := lx_run [] [40] 4 [] false 33 lx_L [] (hg_cap (lx_G v 2) 1 (0, 5110))
noncomputable def lx_GD (v : Nat) : ai_G := hg_cap (hg_cap (lx_G v 1) 1 (0, 5110)) 381 (33, 63)
noncomputable def lx_rD (v : Nat) : Option (List ai_F) := lx_run [] [23] 4 [] false 40 lx_L [.inl (381, 0)] (lx_GD v)
noncomputable def lx_rE (v : Nat) : Bool := match lx_sg [] (fun q => Nat.beq q 1748) false 1747 lx_L [] (lx_G v 2) with
  | some fs => fs.all (fun f => Nat.beq f.1 1748 && (Nat.beq f.2.2.2.2.2.1 0 && (Nat.beq f.2.2.2.2.2.2 0 && decide (f.2.2.1 = [.inl (0, 1)]))))
  | none => false
noncomputable def lx_63 (v : Nat) : Bool := (lx_El v 1).2.1.any (fun q => Nat.beq q.1 381 && (ai_eq q.2.1 0 && ai_eq q.2.2 63))
noncomputable def lx_seg (v : Nat) : Bool := lx_at (lx_rA v) v 0 lx_SA 26 lx_oA && (lx_at (lx_rB v) v 2 lx_SB 30 lx_oB && (lx_at (lx_rC v) v 1 [.inl (381, 0)] 40 lx_oA && (lx_at (lx_rD v) v 0 [] 23 lx_o && (lx_rE v && lx_63 v))))
theorem lx_sg0 : lx_seg 0 = true := by decide +kernel
theorem lx_sg1 : lx_seg 1 = true := by decide +kernel
