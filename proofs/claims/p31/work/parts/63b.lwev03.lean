/-! THE LAW: what each kind of call comes to (printed by lawq.py) 3 -/
noncomputable def lx_P28 : List (Nat × Nat × Nat) := [(1, 0, 4), (106, 264, 1)]
noncomputable def lx_T28_u : List (Nat × us_C) := [(161, cn_x_act), (253, cn_m_act)]
theorem lx_T28_u_ok : lt_all 60 lx_T28_u := ⟨cp_x_act.mono (by decide), cp_m_act.mono (by decide), trivial⟩
theorem lx_e28_u : lx_ckU lx_T28_u bx_0 [] lx_P28 0 0 28 = true := by decide +kernel
theorem lx_u28 : lx_KU 28 := lx_KU0 (by decide +kernel) lx_T28_u_ok lx_e28_u
noncomputable def lx_P29 : List (Nat × Nat × Nat) := [(1, 0, 4), (106, 264, 1), (147, 16, 13)]
noncomputable def lx_B29 : Int → List (Int × Int) := fun k => [(ai_lo32, ai_hi32)]
noncomputable def lx_T29_u : List (Nat × us_C) := []
theorem lx_T29_u_ok : lt_all 60 lx_T29_u := trivial
theorem lx_e29_u0 : (List.range 7).all (fun j => lx_ckU lx_T29_u lx_B29 [] lx_P29 147 ((0) + Int.ofNat j) 29) = true := by decide +kernel
theorem lx_e29_u1 : (List.range 7).all (fun j => lx_ckU lx_T29_u lx_B29 [] lx_P29 147 ((7) + Int.ofNat j) 29) = true := by decide +kernel
theorem lx_e29_u2 : (List.range 7).all (fun j => lx_ckU lx_T29_u lx_B29 [] lx_P29 147 ((14) + Int.ofNat j) 29) = true := by decide +kernel
theorem lx_e29_u3 : (List.range 7).all (fun j => lx_ckU lx_T29_u lx_B29 [] lx_P29 147 ((21) + Int.ofNat j) 29) = true := by decide +kernel
theorem lx_e29_u4 : (List.range 7).all (fun j => lx_ckU lx_T29_u lx_B29 [] lx_P29 147 ((28) + Int.ofNat j) 29) = true := by decide +kernel
theorem lx_e29_u5 : (List.range 7).all (fun j => lx_ckU lx_T29_u lx_B29 [] lx_P29 147 ((35) + Int.ofNat j) 29) = true := by decide +kernel
theorem lx_e29_u6 : (List.range 7).all (fun j => lx_ckU lx_T29_u lx_B29 [] lx_P29 147 ((42) + Int.ofNat j) 29) = true := by decide +kernel
theorem lx_e29_u7 : (List.range 7).all (fun j => lx_ckU lx_T29_u lx_B29 [] lx_P29 147 ((49) + Int.ofNat j) 29) = true := by decide +kernel
theorem lx_e29_u8 : (List.range 7).all (fun j => lx_ckU lx_T29_u lx_B29 [] lx_P29 147 ((56) + Int.ofNat j) 29) = true := by decide +kernel
theorem lx_e29_u9 : (List.range 7).all (fun j => lx_ckU lx_T29_u lx_B29 [] lx_P29 147 ((63) + Int.ofNat j) 29) = true := by decide +kernel
theorem lx_e29_u10 : (List.range 7).all (fun j => lx_ckU lx_T29_u lx_B29 [] lx_P29 147 ((70) + Int.ofNat j) 29) = true := by decide +kernel
theorem lx_e29_u11 : (List.range 7).all (fun j => lx_ckU lx_T29_u lx_B29 [] lx_P29 147 ((77) + Int.ofNat j) 29) = true := by decide +kernel
theorem lx_e29_u12 : (List.range 7).all (fun j => lx_ckU lx_T29_u lx_B29 [] lx_P29 147 ((84) + Int.ofNat j) 29) = true := by decide +kernel
theorem lx_e29_u13 : (List.range 7).all (fun j => lx_ckU lx_T29_u lx_B29 [] lx_P29 147 ((91) + Int.ofNat j) 29) = true := by decide +kernel
theorem lx_e29_u14 : (List.range 2).all (fun j => lx_ckU lx_T29_u lx_B29 [] lx_P29 147 ((98) + Int.ofNat j) 29) = true := by decide +kernel
theorem lx_e29_u : ∀ k : Int, (0) ≤ k → k ≤ (99) → lx_ckU lx_T29_u lx_B29 [] lx_P29 147 k 29 = true := fun k h1 h2 => by
  by_cases q0 : k ≤ (6)
  · exact lx_each (lo := (0)) (n := 7) (f := fun k => lx_ckU lx_T29_u lx_B29 [] lx_P29 147 k 29) lx_e29_u0 k (by omega) (by omega)
  by_cases q1 : k ≤ (13)
  · exact lx_each (lo := (7)) (n := 7) (f := fun k => lx_ckU lx_T29_u lx_B29 [] lx_P29 147 k 29) lx_e29_u1 k (by omega) (by omega)
  by_cases q2 : k ≤ (20)
  · exact lx_each (lo := (14)) (n := 7) (f := fun k => lx_ckU lx_T29_u lx_B29 [] lx_P29 147 k 29) lx_e29_u2 k (by omega) (by omega)
  by_cases q3 : k ≤ (27)
  · exact lx_each (lo := (21)) (n := 7) (f := fun k => lx_ckU lx_T29_u lx_B29 [] lx_P29 147 k 29) lx_e29_u3 k (by omega) (by omega)
  by_cases q4 : k ≤ (34)
  · exact lx_each (lo := (28)) (n := 7) (f := fun k => lx_ckU lx_T29_u lx_B29 [] lx_P29 147 k 29) lx_e29_u4 k (by omega) (by omega)
  by_cases q5 : k ≤ (41)
  · exact lx_each (lo := (35)) (n := 7) (f := fun k => lx_ckU lx_T29_u lx_B29 [] lx_P29 147 k 29) lx_e29_u5 k (by omega) (by omega)
  by_cases q6 : k ≤ (48)
  · exact lx_each (lo := (42)) (n := 7) (f := fun k => lx_ckU lx_T29_u lx_B29 [] lx_P29 147 k 29) lx_e29_u6 k (by omega) (by omega)
  by_cases q7 : k ≤ (55)
  · exact lx_each (lo := (49)) (n := 7) (f := fun k => lx_ckU lx_T29_u lx_B29 [] lx_P29 147 k 29) lx_e29_u7 k (by omega) (by omega)
  by_cases q8 : k ≤ (62)
  · exact lx_each (lo := (56)) (n := 7) (f := fun k => lx_ckU lx_T29_u lx_B29 [] lx_P29 147 k 29) lx_e29_u8 k (by omega) (by omega)
  by_cases q9 : k ≤ (69)
  · exact lx_each (lo := (63)) (n := 7) (f := fun k => lx_ckU lx_T29_u lx_B29 [] lx_P29 147 k 29) lx_e29_u9 k (by omega) (by omega)
  by_cases q10 : k ≤ (76)
  · exact lx_each (lo := (70)) (n := 7) (f := fun k => lx_ckU lx_T29_u lx_B29 [] lx_P29 147 k 29) lx_e29_u10 k (by omega) (by omega)
  by_cases q11 : k ≤ (83)
  · exact lx_each (lo := (77)) (n := 7) (f := fun k => lx_ckU lx_T29_u lx_B29 [] lx_P29 147 k 29) lx_e29_u11 k (by omega) (by omega)
  by_cases q12 : k ≤ (90)
  · exact lx_each (lo := (84)) (n := 7) (f := fun k => lx_ckU lx_T29_u lx_B29 [] lx_P29 147 k 29) lx_e29_u12 k (by omega) (by omega)
  by_cases q13 : k ≤ (97)
  · exact lx_each (lo := (91)) (n := 7) (f := fun k => lx_ckU lx_T29_u lx_B29 [] lx_P29 147 k 29) lx_e29_u13 k (by omega) (by omega)
  exact lx_each (lo := (98)) (n := 2) (f := fun k => lx_ckU lx_T29_u lx_B29 [] lx_P29 147 k 29) lx_e29_u14 k (by omega) (by omega)
theorem lx_u29 : lx_KU 29 := ⟨lx_B29, [], lx_P29, 147, (0), (99), by decide +kernel, by decide +kernel, by decide +kernel, fun k h1 h2 => ⟨_, lx_T29_u_ok, lx_e29_u k h1 h2⟩⟩
noncomputable def lx_P30 : List (Nat × Nat × Nat) := [(1, 0, 4), (3, 16, 12), (106, 264, 1), (148, 264, 108)]
noncomputable def lx_T30_u : List (Nat × us_C) := [(163, cn_x_meter), (255, cn_m_meter)]
theorem lx_T30_u_ok : lt_all 60 lx_T30_u := ⟨cp_x_meter.mono (by decide), cp_m_meter.mono (by decide), trivial⟩
theorem lx_e30_u : lx_ckU lx_T30_u bx_0 [] lx_P30 0 0 30 = true := by decide +kernel
theorem lx_u30 : lx_KU 30 := lx_KU0 (by decide +kernel) lx_T30_u_ok lx_e30_u
noncomputable def lx_P31 : List (Nat × Nat × Nat) := [(1, 0, 4), (106, 264, 1)]
noncomputable def lx_T31_u : List (Nat × us_C) := [(164, cn_x_bill), (256, cn_m_bill)]
theorem lx_T31_u_ok : lt_all 60 lx_T31_u := ⟨cp_x_bill.mono (by decide), cp_m_bill.mono (by decide), trivial⟩
theorem lx_e31_u : lx_ckU lx_T31_u bx_0 [] lx_P31 0 0 31 = true := by decide +kernel
theorem lx_u31 : lx_KU 31 := lx_KU0 (by decide +kernel) lx_T31_u_ok lx_e31_u
noncomputable def lx_P32 : List (Nat × Nat × Nat) := [(1, 0, 4), (106, 264, 1)]
noncomputable def lx_T32_u : List (Nat × us_C) := [(166, cn_x_count), (257, cn_m_count)]
theorem lx_T32_u_ok : lt_all 60 lx_T32_u := ⟨cp_x_count.mono (by decide), cp_m_count.mono (by decide), trivial⟩
theorem lx_e32_u : lx_ckU lx_T32_u bx_0 [] lx_P32 0 0 32 = true := by decide +kernel
theorem lx_u32 : lx_KU 32 := lx_KU0 (by decide +kernel) lx_T32_u_ok lx_e32_u
