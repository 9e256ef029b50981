/-! THE LAW: mill, 4 of them told (printed by lawq.py) -/
noncomputable def lx_P2_4 : List (Nat × Nat × Nat) := [(1, 0, 4), (73, 17, 2)]
noncomputable def lx_P2f_4 : List (Nat × Nat × Nat) := [(1, 0, 4), (70, 264, 1), (73, 17, 2)]
noncomputable def lx_Tu4 : List (Nat × us_C) := []
theorem lx_Tu4_ok : lt_all 60 lx_Tu4 := trivial
theorem lx_pf4 : lx_pcK 4 lx_P2f_4 = true := by decide +kernel
theorem lx_pk4 : lx_pcK 4 lx_P2_4 = true := by decide +kernel
theorem lx_mu4_all : lx_mkU lx_Tu4 bx_0 [270, 271, 272, 273, 274, 275, 276, 277, 278, 293] lx_P2f_4 lx_P2_4 4 = true := by decide +kernel
theorem lx_mq4 : ∀ v, v ≤ 4 → lx_MKQ 4 v := fun v h => lx_MKQ1 lx_Tu4_ok lx_pf4 lx_pk4 lx_mu4_all
theorem lx_mills : ∀ k v, v ≤ k → k ≤ 4 → lx_MKQ k v := fun k v h1 h2 => match k with
  | 0 => lx_mq0 v h1
  | 1 => lx_mq1 v h1
  | 2 => lx_mq2 v h1
  | 3 => lx_mq3 v h1
  | 4 => lx_mq4 v h1
  | n + 5 => absurd h2 (by omega)
