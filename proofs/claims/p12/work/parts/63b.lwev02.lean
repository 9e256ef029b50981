/-! THE LAW: what each kind of call comes to (printed by lawq.py) 2 -/
noncomputable def lx_P22 : List (Nat × Nat × Nat) := [(1, 0, 4), (58, 193, 0), (59, 193, 1), (60, 193, 2), (61, 193, 3), (62, 193, 4), (63, 193, 6), (64, 193, 7), (65, 193, 8), (66, 193, 9), (70, 264, 1), (100, 264, 87), (101, 264, 88), (103, 264, 90), (104, 264, 91), (105, 264, 92), (106, 264, 93), (107, 264, 94), (108, 264, 100), (109, 264, 101)]
noncomputable def lx_T22_u : List (Nat × us_C) := [(155, cn_x_night), (242, cn_m_night)]
theorem lx_T22_u_ok : lt_all 60 lx_T22_u := ⟨cp_x_night.mono (by decide), cp_m_night.mono (by decide), trivial⟩
theorem lx_e22_u : lx_ckU lx_T22_u bx_0 [] lx_P22 0 0 22 = true := by decide +kernel
theorem lx_u22 : lx_KU 22 := lx_KU0 (by decide +kernel) lx_T22_u_ok lx_e22_u
noncomputable def lx_P23 : List (Nat × Nat × Nat) := [(1, 0, 4), (70, 264, 1)]
noncomputable def lx_T23_u : List (Nat × us_C) := [(156, cn_x_falls), (243, cn_m_falls)]
theorem lx_T23_u_ok : lt_all 60 lx_T23_u := ⟨cp_x_falls.mono (by decide), cp_m_falls.mono (by decide), trivial⟩
theorem lx_e23_u : lx_ckU lx_T23_u bx_0 [] lx_P23 0 0 23 = true := by decide +kernel
theorem lx_u23 : lx_KU 23 := lx_KU0 (by decide +kernel) lx_T23_u_ok lx_e23_u
noncomputable def lx_P24 : List (Nat × Nat × Nat) := [(1, 0, 4), (59, 193, 1), (60, 193, 2), (61, 193, 3), (62, 193, 4), (66, 193, 9), (70, 264, 1), (101, 264, 88), (104, 264, 91), (105, 264, 92), (106, 264, 93), (107, 264, 94)]
noncomputable def lx_T24_u : List (Nat × us_C) := [(157, cn_x_minutes), (246, cn_m_minutes)]
theorem lx_T24_u_ok : lt_all 60 lx_T24_u := ⟨cp_x_minutes.mono (by decide), cp_m_minutes.mono (by decide), trivial⟩
theorem lx_e24_u : lx_ckU lx_T24_u bx_0 [] lx_P24 0 0 24 = true := by decide +kernel
theorem lx_u24 : lx_KU 24 := lx_KU0 (by decide +kernel) lx_T24_u_ok lx_e24_u
noncomputable def lx_P25 : List (Nat × Nat × Nat) := [(1, 0, 4), (70, 264, 1)]
noncomputable def lx_T25_u : List (Nat × us_C) := [(158, cn_x_ofNight), (247, cn_m_ofNight)]
theorem lx_T25_u_ok : lt_all 60 lx_T25_u := ⟨cp_x_ofNight.mono (by decide), cp_m_ofNight.mono (by decide), trivial⟩
theorem lx_e25_u : lx_ckU lx_T25_u bx_0 [] lx_P25 0 0 25 = true := by decide +kernel
theorem lx_u25 : lx_KU 25 := lx_KU0 (by decide +kernel) lx_T25_u_ok lx_e25_u
noncomputable def lx_P26 : List (Nat × Nat × Nat) := [(1, 0, 4), (70, 264, 1), (373, 44, 11), (374, 50, 11), (375, 56, 11), (376, 62, 11), (377, 44, 12), (378, 50, 12), (379, 56, 12), (380, 62, 12)]
noncomputable def lx_B26 : Int → List (Int × Int) := fun k => if k = 1 then [(.negSucc 2147483647, .negSucc 0), (.ofNat 0, .ofNat 0), (.ofNat 1, .ofNat 1), (.ofNat 2, .ofNat 2), (.ofNat 3, .ofNat 3), (.ofNat 4, .ofNat 2147483647)] else [(ai_lo32, ai_hi32)]
noncomputable def lx_T26_u : List (Nat × us_C) := []
theorem lx_T26_u_ok : lt_all 60 lx_T26_u := trivial
theorem lx_e26_u0 : (List.range 1).all (fun j => lx_ckU lx_T26_u lx_B26 [327, 328] lx_P26 0 ((0) + Int.ofNat j) 26) = true := by decide +kernel
theorem lx_e26_u : ∀ k : Int, (0) ≤ k → k ≤ (0) → lx_ckU lx_T26_u lx_B26 [327, 328] lx_P26 0 k 26 = true := fun k h1 h2 => by
  exact lx_each (lo := (0)) (n := 1) (f := fun k => lx_ckU lx_T26_u lx_B26 [327, 328] lx_P26 0 k 26) lx_e26_u0 k (by omega) (by omega)
theorem lx_u26 : lx_KU 26 := ⟨lx_B26, [327, 328], lx_P26, 0, (0), (0), by decide +kernel, by decide +kernel, by decide +kernel, fun k h1 h2 => ⟨_, lx_T26_u_ok, lx_e26_u k h1 h2⟩⟩
noncomputable def lx_P27 : List (Nat × Nat × Nat) := [(1, 0, 4), (67, 198, 0), (68, 198, 3), (69, 198, 4), (70, 264, 1), (110, 264, 106)]
noncomputable def lx_T27_u : List (Nat × us_C) := [(160, cn_x_way), (252, cn_m_way)]
theorem lx_T27_u_ok : lt_all 60 lx_T27_u := ⟨cp_x_way.mono (by decide), cp_m_way.mono (by decide), trivial⟩
theorem lx_e27_u : lx_ckU lx_T27_u bx_0 [] lx_P27 0 0 27 = true := by decide +kernel
theorem lx_u27 : lx_KU 27 := lx_KU0 (by decide +kernel) lx_T27_u_ok lx_e27_u
noncomputable def lx_P28 : List (Nat × Nat × Nat) := [(1, 0, 4), (70, 264, 1)]
noncomputable def lx_T28_u : List (Nat × us_C) := [(161, cn_x_act), (253, cn_m_act)]
theorem lx_T28_u_ok : lt_all 60 lx_T28_u := ⟨cp_x_act.mono (by decide), cp_m_act.mono (by decide), trivial⟩
theorem lx_e28_u : lx_ckU lx_T28_u bx_0 [] lx_P28 0 0 28 = true := by decide +kernel
theorem lx_u28 : lx_KU 28 := lx_KU0 (by decide +kernel) lx_T28_u_ok lx_e28_u
noncomputable def lx_P29 : List (Nat × Nat × Nat) := [(1, 0, 4), (4, 16, 13), (70, 264, 1), (111, 264, 107)]
noncomputable def lx_T29_u : List (Nat × us_C) := [(162, cn_x_evenings), (254, cn_m_evenings)]
theorem lx_T29_u_ok : lt_all 60 lx_T29_u := ⟨cp_x_evenings.mono (by decide), cp_m_evenings.mono (by decide), trivial⟩
theorem lx_e29_u : lx_ckU lx_T29_u bx_0 [] lx_P29 0 0 29 = true := by decide +kernel
theorem lx_u29 : lx_KU 29 := lx_KU0 (by decide +kernel) lx_T29_u_ok lx_e29_u
noncomputable def lx_P30 : List (Nat × Nat × Nat) := [(1, 0, 4), (3, 16, 12), (70, 264, 1), (112, 264, 108)]
noncomputable def lx_T30_u : List (Nat × us_C) := [(163, cn_x_meter), (255, cn_m_meter)]
theorem lx_T30_u_ok : lt_all 60 lx_T30_u := ⟨cp_x_meter.mono (by decide), cp_m_meter.mono (by decide), trivial⟩
theorem lx_e30_u : lx_ckU lx_T30_u bx_0 [] lx_P30 0 0 30 = true := by decide +kernel
theorem lx_u30 : lx_KU 30 := lx_KU0 (by decide +kernel) lx_T30_u_ok lx_e30_u
noncomputable def lx_P31 : List (Nat × Nat × Nat) := [(1, 0, 4), (70, 264, 1)]
noncomputable def lx_T31_u : List (Nat × us_C) := [(164, cn_x_bill), (256, cn_m_bill)]
theorem lx_T31_u_ok : lt_all 60 lx_T31_u := ⟨cp_x_bill.mono (by decide), cp_m_bill.mono (by decide), trivial⟩
theorem lx_e31_u : lx_ckU lx_T31_u bx_0 [] lx_P31 0 0 31 = true := by decide +kernel
theorem lx_u31 : lx_KU 31 := lx_KU0 (by decide +kernel) lx_T31_u_ok lx_e31_u
noncomputable def lx_P32 : List (Nat × Nat × Nat) := [(1, 0, 4), (70, 264, 1)]
noncomputable def lx_T32_u : List (Nat × us_C) := [(166, cn_x_count), (257, cn_m_count)]
theorem lx_T32_u_ok : lt_all 60 lx_T32_u := ⟨cp_x_count.mono (by decide), cp_m_count.mono (by decide), trivial⟩
theorem lx_e32_u : lx_ckU lx_T32_u bx_0 [] lx_P32 0 0 32 = true := by decide +kernel
theorem lx_u32 : lx_KU 32 := lx_KU0 (by decide +kernel) lx_T32_u_ok lx_e32_u
