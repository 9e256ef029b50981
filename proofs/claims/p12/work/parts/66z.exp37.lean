/-! THE NETS (the reference): a line fallen is one without stiffness -/
noncomputable def zn_r (r : Nat → Int) (v : Nat) : Nat → Int := fun t => if 1 ≤ v ∧ t = 123 + (v - 1) then 0 else r t
noncomputable def zn_k (k : Nat) : ai_V := wa_k k
noncomputable def zn_q (t : Nat) : ai_V := .inr (.inl (t, 0))
noncomputable def zn_nL (v l : Nat) : List ai_V := [wa_r 264, wa_k v, wa_k l, wa_u, wa_u]
noncomputable def zn_0 (v : Nat) : List ai_V := [wa_r 264, wa_k v, wa_u, wa_u, wa_u]
noncomputable def zn_pL (v i : Nat) (x : ai_V) : List ai_V := [wa_r 264, wa_k v, wa_u, wa_k i, x]
noncomputable abbrev zn_w (st : List Nat) (sk : Bool) (pc : Nat) (L S : List ai_V) (sp : List (Nat × Int)) (cp : List (Nat × Int × Int)) (C : List Nat) (Es : List pt_E) : Bool := pt_row zyY 213 st sk (pc, 0, 0) L S sp cp [] C Es
theorem zn_n0 : (List.range 6).all (fun v => zn_w [23] true 0 (zn_0 v) [] [] [] [296] [((23, 0, 0), (zn_nL v 0, []), rb_0W, [])]) = true := by decide +kernel
noncomputable def zn_g1 (v : Nat) : Bool := (List.range 5).all (fun l => Nat.beq v (l + 1) || (List.range 4).all (fun a => (List.range 4).all (fun b => Nat.beq a b || zn_w [23, 167] true 23 (zn_nL v l) [] [(113 + l, .ofNat a), (118 + l, .ofNat b)] [(72, (.ofNat (l + 1), 5))] [296] [((23, 0, 0), (zn_nL v (l + 1), []), rb_lW l a b ++ rb_aW l a b, [])])))
