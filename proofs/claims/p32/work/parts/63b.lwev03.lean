/-! THE LAW: what each kind of call comes to (printed by lawq.py) 3 -/
noncomputable def lx_P28 : List (Nat × Nat × Nat) := [(1, 0, 4), (105, 264, 1)]
noncomputable def lx_T28_u : List (Nat × us_C) := [(161, cn_x_act), (253, cn_m_act)]
theorem lx_T28_u_ok : lt_all 60 lx_T28_u := ⟨cp_x_act.mono (by decide), cp_m_act.mono (by decide), trivial⟩
theorem lx_e28_u : lx_ckU lx_T28_u bx_0 [] lx_P28 0 0 28 = true := by decide +kernel
theorem lx_u28 : lx_KU 28 := lx_KU0 (by decide +kernel) lx_T28_u_ok lx_e28_u
noncomputable def lx_P29 : List (Nat × Nat × Nat) := [(1, 0, 4), (3, 16, 13), (105, 264, 1), (146, 264, 107)]
noncomputable def lx_T29_u : List (Nat × us_C) := [(162, cn_x_evenings), (254, cn_m_evenings)]
theorem lx_T29_u_ok : lt_all 60 lx_T29_u := ⟨cp_x_evenings.mono (by decide), cp_m_evenings.mono (by decide), trivial⟩
theorem lx_e29_u : lx_ckU lx_T29_u bx_0 [] lx_P29 0 0 29 = true := by decide +kernel
theorem lx_u29 : lx_KU 29 := lx_KU0 (by decide +kernel) lx_T29_u_ok lx_e29_u
noncomputable def lx_P30 : List (Nat × Nat × Nat) := [(1, 0, 4), (105, 264, 1), (147, 16, 12)]
noncomputable def lx_B30 : Int → List (Int × Int) := fun k => [(ai_lo32, ai_hi32)]
noncomputable def lx_T30_u : List (Nat × us_C) := []
theorem lx_T30_u_ok : lt_all 60 lx_T30_u := trivial
theorem lx_e30_u0 : (List.range 2).all (fun j => lx_ckU lx_T30_u lx_B30 [] lx_P30 147 ((0) + Int.ofNat j) 30) = true := by decide +kernel
theorem lx_e30_u1 : (List.range 2).all (fun j => lx_ckU lx_T30_u lx_B30 [] lx_P30 147 ((2) + Int.ofNat j) 30) = true := by decide +kernel
theorem lx_e30_u2 : (List.range 2).all (fun j => lx_ckU lx_T30_u lx_B30 [] lx_P30 147 ((4) + Int.ofNat j) 30) = true := by decide +kernel
theorem lx_e30_u3 : (List.range 2).all (fun j => lx_ckU lx_T30_u lx_B30 [] lx_P30 147 ((6) + Int.ofNat j) 30) = true := by decide +kernel
theorem lx_e30_u4 : (List.range 2).all (fun j => lx_ckU lx_T30_u lx_B30 [] lx_P30 147 ((8) + Int.ofNat j) 30) = true := by decide +kernel
theorem lx_e30_u5 : (List.range 2).all (fun j => lx_ckU lx_T30_u lx_B30 [] lx_P30 147 ((10) + Int.ofNat j) 30) = true := by decide +kernel
theorem lx_e30_u6 : (List.range 2).all (fun j => lx_ckU lx_T30_u lx_B30 [] lx_P30 147 ((12) + Int.ofNat j) 30) = true := by decide +kernel
theorem lx_e30_u7 : (List.range 2).all (fun j => lx_ckU lx_T30_u lx_B30 [] lx_P30 147 ((14) + Int.ofNat j) 30) = true := by decide +kernel
theorem lx_e30_u8 : (List.range 2).all (fun j => lx_ckU lx_T30_u lx_B30 [] lx_P30 147 ((16) + Int.ofNat j) 30) = true := by decide +kernel
theorem lx_e30_u9 : (List.range 2).all (fun j => lx_ckU lx_T30_u lx_B30 [] lx_P30 147 ((18) + Int.ofNat j) 30) = true := by decide +kernel
theorem lx_e30_u10 : (List.range 2).all (fun j => lx_ckU lx_T30_u lx_B30 [] lx_P30 147 ((20) + Int.ofNat j) 30) = true := by decide +kernel
theorem lx_e30_u11 : (List.range 2).all (fun j => lx_ckU lx_T30_u lx_B30 [] lx_P30 147 ((22) + Int.ofNat j) 30) = true := by decide +kernel
theorem lx_e30_u12 : (List.range 2).all (fun j => lx_ckU lx_T30_u lx_B30 [] lx_P30 147 ((24) + Int.ofNat j) 30) = true := by decide +kernel
theorem lx_e30_u13 : (List.range 2).all (fun j => lx_ckU lx_T30_u lx_B30 [] lx_P30 147 ((26) + Int.ofNat j) 30) = true := by decide +kernel
theorem lx_e30_u14 : (List.range 2).all (fun j => lx_ckU lx_T30_u lx_B30 [] lx_P30 147 ((28) + Int.ofNat j) 30) = true := by decide +kernel
theorem lx_e30_u15 : (List.range 2).all (fun j => lx_ckU lx_T30_u lx_B30 [] lx_P30 147 ((30) + Int.ofNat j) 30) = true := by decide +kernel
theorem lx_e30_u16 : (List.range 2).all (fun j => lx_ckU lx_T30_u lx_B30 [] lx_P30 147 ((32) + Int.ofNat j) 30) = true := by decide +kernel
theorem lx_e30_u17 : (List.range 2).all (fun j => lx_ckU lx_T30_u lx_B30 [] lx_P30 147 ((34) + Int.ofNat j) 30) = true := by decide +kernel
theorem lx_e30_u18 : (List.range 2).all (fun j => lx_ckU lx_T30_u lx_B30 [] lx_P30 147 ((36) + Int.ofNat j) 30) = true := by decide +kernel
theorem lx_e30_u19 : (List.range 2).all (fun j => lx_ckU lx_T30_u lx_B30 [] lx_P30 147 ((38) + Int.ofNat j) 30) = true := by decide +kernel
theorem lx_e30_u20 : (List.range 2).all (fun j => lx_ckU lx_T30_u lx_B30 [] lx_P30 147 ((40) + Int.ofNat j) 30) = true := by decide +kernel
theorem lx_e30_u21 : (List.range 2).all (fun j => lx_ckU lx_T30_u lx_B30 [] lx_P30 147 ((42) + Int.ofNat j) 30) = true := by decide +kernel
theorem lx_e30_u22 : (List.range 2).all (fun j => lx_ckU lx_T30_u lx_B30 [] lx_P30 147 ((44) + Int.ofNat j) 30) = true := by decide +kernel
theorem lx_e30_u23 : (List.range 2).all (fun j => lx_ckU lx_T30_u lx_B30 [] lx_P30 147 ((46) + Int.ofNat j) 30) = true := by decide +kernel
theorem lx_e30_u24 : (List.range 2).all (fun j => lx_ckU lx_T30_u lx_B30 [] lx_P30 147 ((48) + Int.ofNat j) 30) = true := by decide +kernel
theorem lx_e30_u25 : (List.range 2).all (fun j => lx_ckU lx_T30_u lx_B30 [] lx_P30 147 ((50) + Int.ofNat j) 30) = true := by decide +kernel
theorem lx_e30_u26 : (List.range 2).all (fun j => lx_ckU lx_T30_u lx_B30 [] lx_P30 147 ((52) + Int.ofNat j) 30) = true := by decide +kernel
theorem lx_e30_u27 : (List.range 2).all (fun j => lx_ckU lx_T30_u lx_B30 [] lx_P30 147 ((54) + Int.ofNat j) 30) = true := by decide +kernel
theorem lx_e30_u28 : (List.range 2).all (fun j => lx_ckU lx_T30_u lx_B30 [] lx_P30 147 ((56) + Int.ofNat j) 30) = true := by decide +kernel
theorem lx_e30_u29 : (List.range 2).all (fun j => lx_ckU lx_T30_u lx_B30 [] lx_P30 147 ((58) + Int.ofNat j) 30) = true := by decide +kernel
theorem lx_e30_u30 : (List.range 1).all (fun j => lx_ckU lx_T30_u lx_B30 [] lx_P30 147 ((60) + Int.ofNat j) 30) = true := by decide +kernel
theorem lx_e30_u : ∀ k : Int, (0) ≤ k → k ≤ (60) → lx_ckU lx_T30_u lx_B30 [] lx_P30 147 k 30 = true := fun k h1 h2 => by
  by_cases q0 : k ≤ (1)
  · exact lx_each (lo := (0)) (n := 2) (f := fun k => lx_ckU lx_T30_u lx_B30 [] lx_P30 147 k 30) lx_e30_u0 k (by omega) (by omega)
  by_cases q1 : k ≤ (3)
  · exact lx_each (lo := (2)) (n := 2) (f := fun k => lx_ckU lx_T30_u lx_B30 [] lx_P30 147 k 30) lx_e30_u1 k (by omega) (by omega)
  by_cases q2 : k ≤ (5)
  · exact lx_each (lo := (4)) (n := 2) (f := fun k => lx_ckU lx_T30_u lx_B30 [] lx_P30 147 k 30) lx_e30_u2 k (by omega) (by omega)
  by_cases q3 : k ≤ (7)
  · exact lx_each (lo := (6)) (n := 2) (f := fun k => lx_ckU lx_T30_u lx_B30 [] lx_P30 147 k 30) lx_e30_u3 k (by omega) (by omega)
  by_cases q4 : k ≤ (9)
  · exact lx_each (lo := (8)) (n := 2) (f := fun k => lx_ckU lx_T30_u lx_B30 [] lx_P30 147 k 30) lx_e30_u4 k (by omega) (by omega)
  by_cases q5 : k ≤ (11)
  · exact lx_each (lo := (10)) (n := 2) (f := fun k => lx_ckU lx_T30_u lx_B30 [] lx_P30 147 k 30) lx_e30_u5 k (by omega) (by omega)
  by_cases q6 : k ≤ (13)
  · exact lx_each (lo := (12)) (n := 2) (f := fun k => lx_ckU lx_T30_u lx_B30 [] lx_P30 147 k 30) lx_e30_u6 k (by omega) (by omega)
  by_cases q7 : k ≤ (15)
  · exact lx_each (lo := (14)) (n := 2) (f := fun k => lx_ckU lx_T30_u lx_B30 [] lx_P30 147 k 30) lx_e30_u7 k (by omega) (by omega)
  by_cases q8 : k ≤ (17)
  · exact lx_each (lo := (16)) (n := 2) (f := fun k => lx_ckU lx_T30_u lx_B30 [] lx_P30 147 k 30) lx_e30_u8 k (by omega) (by omega)
  by_cases q9 : k ≤ (19)
  · exact lx_each (lo := (18)) (n := 2) (f := fun k => lx_ckU lx_T30_u lx_B30 [] lx_P30 147 k 30) lx_e30_u9 k (by omega) (by omega)
  by_cases q10 : k ≤ (21)
  · exact lx_each (lo := (20)) (n := 2) (f := fun k => lx_ckU lx_T30_u lx_B30 [] lx_P30 147 k 30) lx_e30_u10 k (by omega) (by omega)
  by_cases q11 : k ≤ (23)
  · exact lx_each (lo := (22)) (n := 2) (f := fun k => lx_ckU lx_T30_u lx_B30 [] lx_P30 147 k 30) lx_e30_u11 k (by omega) (by omega)
  by_cases q12 : k ≤ (25)
  · exact lx_each (lo := (24)) (n := 2) (f := fun k => lx_ckU lx_T30_u lx_B30 [] lx_P30 147 k 30) lx_e30_u12 k (by omega) (by omega)
  by_cases q13 : k ≤ (27)
  · exact lx_each (lo := (26)) (n := 2) (f := fun k => lx_ckU lx_T30_u lx_B30 [] lx_P30 147 k 30) lx_e30_u13 k (by omega) (by omega)
  by_cases q14 : k ≤ (29)
  · exact lx_each (lo := (28)) (n := 2) (f := fun k => lx_ckU lx_T30_u lx_B30 [] lx_P30 147 k 30) lx_e30_u14 k (by omega) (by omega)
  by_cases q15 : k ≤ (31)
  · exact lx_each (lo := (30)) (n := 2) (f := fun k => lx_ckU lx_T30_u lx_B30 [] lx_P30 147 k 30) lx_e30_u15 k (by omega) (by omega)
  by_cases q16 : k ≤ (33)
  · exact lx_each (lo := (32)) (n := 2) (f := fun k => lx_ckU lx_T30_u lx_B30 [] lx_P30 147 k 30) lx_e30_u16 k (by omega) (by omega)
  by_cases q17 : k ≤ (35)
  · exact lx_each (lo := (34)) (n := 2) (f := fun k => lx_ckU lx_T30_u lx_B30 [] lx_P30 147 k 30) lx_e30_u17 k (by omega) (by omega)
  by_cases q18 : k ≤ (37)
  · exact lx_each (lo := (36)) (n := 2) (f := fun k => lx_ckU lx_T30_u lx_B30 [] lx_P30 147 k 30) lx_e30_u18 k (by omega) (by omega)
  by_cases q19 : k ≤ (39)
  · exact lx_each (lo := (38)) (n := 2) (f := fun k => lx_ckU lx_T30_u lx_B30 [] lx_P30 147 k 30) lx_e30_u19 k (by omega) (by omega)
  by_cases q20 : k ≤ (41)
  · exact lx_each (lo := (40)) (n := 2) (f := fun k => lx_ckU lx_T30_u lx_B30 [] lx_P30 147 k 30) lx_e30_u20 k (by omega) (by omega)
  by_cases q21 : k ≤ (43)
  · exact lx_each (lo := (42)) (n := 2) (f := fun k => lx_ckU lx_T30_u lx_B30 [] lx_P30 147 k 30) lx_e30_u21 k (by omega) (by omega)
  by_cases q22 : k ≤ (45)
  · exact lx_each (lo := (44)) (n := 2) (f := fun k => lx_ckU lx_T30_u lx_B30 [] lx_P30 147 k 30) lx_e30_u22 k (by omega) (by omega)
  by_cases q23 : k ≤ (47)
  · exact lx_each (lo := (46)) (n := 2) (f := fun k => lx_ckU lx_T30_u lx_B30 [] lx_P30 147 k 30) lx_e30_u23 k (by omega) (by omega)
  by_cases q24 : k ≤ (49)
  · exact lx_each (lo := (48)) (n := 2) (f := fun k => lx_ckU lx_T30_u lx_B30 [] lx_P30 147 k 30) lx_e30_u24 k (by omega) (by omega)
  by_cases q25 : k ≤ (51)
  · exact lx_each (lo := (50)) (n := 2) (f := fun k => lx_ckU lx_T30_u lx_B30 [] lx_P30 147 k 30) lx_e30_u25 k (by omega) (by omega)
  by_cases q26 : k ≤ (53)
  · exact lx_each (lo := (52)) (n := 2) (f := fun k => lx_ckU lx_T30_u lx_B30 [] lx_P30 147 k 30) lx_e30_u26 k (by omega) (by omega)
  by_cases q27 : k ≤ (55)
  · exact lx_each (lo := (54)) (n := 2) (f := fun k => lx_ckU lx_T30_u lx_B30 [] lx_P30 147 k 30) lx_e30_u27 k (by omega) (by omega)
  by_cases q28 : k ≤ (57)
  · exact lx_each (lo := (56)) (n := 2) (f := fun k => lx_ckU lx_T30_u lx_B30 [] lx_P30 147 k 30) lx_e30_u28 k (by omega) (by omega)
  by_cases q29 : k ≤ (59)
  · exact lx_each (lo := (58)) (n := 2) (f := fun k => lx_ckU lx_T30_u lx_B30 [] lx_P30 147 k 30) lx_e30_u29 k (by omega) (by omega)
  exact lx_each (lo := (60)) (n := 1) (f := fun k => lx_ckU lx_T30_u lx_B30 [] lx_P30 147 k 30) lx_e30_u30 k (by omega) (by omega)
theorem lx_u30 : lx_KU 30 := ⟨lx_B30, [], lx_P30, 147, (0), (60), by decide +kernel, by decide +kernel, by decide +kernel, fun k h1 h2 => ⟨_, lx_T30_u_ok, lx_e30_u k h1 h2⟩⟩
noncomputable def lx_P31 : List (Nat × Nat × Nat) := [(1, 0, 4), (105, 264, 1)]
noncomputable def lx_T31_u : List (Nat × us_C) := [(164, cn_x_bill), (256, cn_m_bill)]
theorem lx_T31_u_ok : lt_all 60 lx_T31_u := ⟨cp_x_bill.mono (by decide), cp_m_bill.mono (by decide), trivial⟩
theorem lx_e31_u : lx_ckU lx_T31_u bx_0 [] lx_P31 0 0 31 = true := by decide +kernel
theorem lx_u31 : lx_KU 31 := lx_KU0 (by decide +kernel) lx_T31_u_ok lx_e31_u
noncomputable def lx_P32 : List (Nat × Nat × Nat) := [(1, 0, 4), (105, 264, 1)]
noncomputable def lx_T32_u : List (Nat × us_C) := [(166, cn_x_count), (257, cn_m_count)]
theorem lx_T32_u_ok : lt_all 60 lx_T32_u := ⟨cp_x_count.mono (by decide), cp_m_count.mono (by decide), trivial⟩
theorem lx_e32_u : lx_ckU lx_T32_u bx_0 [] lx_P32 0 0 32 = true := by decide +kernel
theorem lx_u32 : lx_KU 32 := lx_KU0 (by decide +kernel) lx_T32_u_ok lx_e32_u
