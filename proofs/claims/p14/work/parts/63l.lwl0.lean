/-! place, line, flow by their contracts -/
noncomputable def lk_bt (m t : Nat) : Bool := Nat.blt t 187 && Nat.beq (Nat.land (Nat.shiftRight m t) 1) 1
noncomputable def lk_p1 : Nat → Bool := lk_bt 766224386406747171950866136595475572587652754557632509
noncomputable def lk_p2 : Nat → Bool := lk_bt 766247770432944426520717522005322846001755440531111937
noncomputable def lk_X1 : List (Nat × Nat × Nat) := [(196, 28, 1), (197, 28, 2), (198, 28, 3), (199, 28, 4), (200, 28, 5), (201, 31, 0), (202, 31, 1), (203, 31, 2), (204, 31, 3), (205, 31, 4), (206, 31, 5), (207, 31, 6), (208, 31, 7), (209, 31, 8), (210, 31, 9), (211, 31, 10), (212, 31, 11), (213, 31, 12), (214, 31, 13), (215, 31, 14), (216, 31, 15), (217, 31, 16), (218, 31, 17), (219, 31, 18), (220, 31, 19), (221, 32, 0), (222, 32, 1), (223, 32, 2), (224, 32, 3), (225, 32, 4), (226, 32, 5), (227, 32, 6), (228, 32, 7), (229, 32, 8), (230, 32, 9), (231, 32, 10), (232, 32, 11), (233, 32, 12), (234, 32, 13), (235, 32, 14), (236, 32, 15), (237, 32, 16), (238, 32, 17), (239, 32, 18), (240, 32, 19), (241, 33, 0), (242, 33, 1), (243, 33, 2), (244, 33, 3), (245, 33, 4), (246, 33, 5), (247, 33, 6), (248, 33, 7), (249, 33, 8), (250, 33, 9), (251, 33, 10), (252, 33, 11), (253, 33, 12), (254, 33, 13), (255, 33, 14), (256, 33, 15), (257, 33, 16), (258, 33, 17), (259, 33, 18), (260, 33, 19), (261, 34, 0), (262, 34, 1), (263, 34, 2), (264, 34, 3), (265, 34, 4), (266, 34, 5), (267, 34, 6), (268, 34, 7), (269, 34, 8), (270, 34, 9), (271, 34, 10), (272, 34, 11), (273, 34, 12), (274, 34, 13), (275, 34, 14), (276, 34, 15), (277, 34, 16), (278, 34, 17), (279, 34, 18), (280, 34, 19), (281, 35, 0), (282, 35, 1), (283, 35, 2), (284, 35, 3), (285, 35, 4), (286, 35, 5), (287, 35, 6), (288, 35, 7), (289, 35, 8), (290, 35, 9), (291, 35, 10), (292, 35, 11), (293, 35, 12), (294, 35, 13), (295, 35, 14), (296, 35, 15), (297, 35, 16), (298, 35, 17), (299, 35, 18), (300, 35, 19), (301, 37, 0), (302, 37, 1), (303, 37, 2), (304, 38, 0), (305, 38, 1), (306, 38, 2), (307, 39, 0), (308, 39, 1), (309, 39, 2), (310, 41, 0), (311, 41, 1), (312, 41, 2), (313, 42, 0), (314, 42, 1), (315, 42, 2), (316, 43, 0), (317, 43, 1), (318, 43, 2), (319, 335, 0), (320, 27, 0), (321, 27, 1), (322, 27, 2), (323, 27, 3), (324, 27, 4)]
noncomputable def lk_X2 : List (Nat × Nat × Nat) := [(196, 296, 0), (197, 296, 1), (198, 296, 2), (199, 296, 3), (200, 296, 4), (201, 296, 5), (202, 296, 6), (203, 296, 7), (204, 296, 8), (205, 296, 9), (206, 296, 10), (207, 296, 11), (208, 296, 12), (209, 296, 13), (210, 296, 14), (211, 296, 15), (212, 294, 0), (213, 295, 0), (214, 295, 1), (215, 295, 2), (216, 295, 3), (217, 295, 4), (218, 295, 5), (219, 295, 6), (220, 295, 7), (221, 295, 8), (222, 295, 9), (223, 295, 10), (224, 295, 11), (225, 295, 12), (226, 295, 13), (227, 295, 14), (228, 295, 15), (229, 295, 16), (230, 295, 17), (231, 295, 18), (232, 295, 19), (233, 295, 20), (234, 295, 21), (235, 295, 22), (236, 295, 23), (237, 295, 24), (238, 295, 25), (239, 295, 26), (240, 295, 27), (241, 295, 28), (242, 295, 29), (243, 295, 30), (244, 295, 31), (245, 295, 32), (246, 295, 33), (247, 295, 34), (248, 295, 35), (249, 295, 36), (250, 295, 37), (251, 295, 38), (252, 295, 39), (253, 295, 40), (254, 295, 41), (255, 295, 42), (256, 295, 43), (257, 295, 44), (258, 295, 45), (259, 295, 46), (260, 295, 47), (261, 295, 48), (262, 295, 49), (263, 295, 50), (264, 295, 51), (265, 295, 52), (266, 295, 53), (267, 295, 54), (268, 295, 55), (269, 295, 56), (270, 295, 57), (271, 295, 58), (272, 295, 59), (273, 295, 60), (274, 295, 61), (275, 295, 62), (276, 295, 63), (277, 295, 64), (278, 295, 65), (279, 295, 66), (280, 295, 67), (281, 295, 68), (282, 295, 69), (283, 295, 70), (284, 295, 71), (285, 295, 72), (286, 295, 73), (287, 295, 74), (288, 295, 75), (289, 295, 76), (290, 295, 77), (291, 295, 78), (292, 295, 79), (293, 295, 80), (294, 295, 81), (295, 295, 82), (296, 295, 83), (297, 295, 84), (298, 295, 85), (299, 295, 86), (300, 295, 87), (301, 295, 88), (302, 295, 89), (303, 295, 90), (304, 295, 91), (305, 295, 92), (306, 295, 93), (307, 295, 94), (308, 295, 95), (309, 295, 96), (310, 295, 97), (311, 295, 98), (312, 295, 99), (313, 295, 100), (314, 295, 101), (315, 295, 102), (316, 295, 103), (317, 295, 104), (318, 295, 105), (319, 295, 106), (320, 295, 107), (321, 295, 108), (322, 295, 109), (323, 295, 110), (324, 295, 111), (325, 295, 112), (326, 295, 113), (327, 295, 114), (328, 295, 115), (329, 295, 116), (330, 295, 117), (331, 295, 118), (332, 295, 119), (333, 269, 0), (334, 269, 1), (335, 269, 2), (336, 269, 3), (337, 269, 4)]
noncomputable def lk_A1 : List (Nat × ai_X) := [(326, (188, 0)), (327, (189, 0)), (328, (190, 0)), (329, (191, 0))]
noncomputable def lk_A2 : List (Nat × ai_X) := [(339, (188, 0)), (340, (189, 0)), (341, (190, 0)), (342, (191, 0))]
noncomputable def lk_Pf : List (Nat × Nat × Nat) := [(1, 0, 4), (121, 264, 1)]
theorem lk_Pfok : lx_pc lk_Pf = true := by decide +kernel
noncomputable def lk_ch (t : Nat) : Bool := (Nat.beq t 121 || (Nat.beq t 122 || Nat.beq t 123)) || ((Nat.ble 8 t && Nat.blt t 29) || (Nat.ble 164 t && Nat.blt t 179))
noncomputable def lk_P0 (t : Nat) : Bool := Nat.blt t 197 && !(lk_ch t)
noncomputable def lk_P0f (t : Nat) : Bool := Nat.blt t 197 && !(Nat.beq t 121)
theorem lk_bt_lt {m t : Nat} (h : lk_bt m t = true) : t < 187 := by
  unfold lk_bt at h
  rw [Bool.and_eq_true] at h
  exact Nat.le_of_ble_eq_true h.1
theorem lk_p1m : (List.range 187).all (fun t => !(Nat.beq t 0 || (Nat.beq t 122 || Nat.beq t 123) || ((Nat.ble 8 t && Nat.blt t 29) || (Nat.ble 164 t && Nat.blt t 179))) || lk_p1 t) = true := by decide +kernel
theorem lk_p2m : (List.range 187).all (fun t => !(Nat.beq t 0 || (Nat.beq t 121 || (Nat.beq t 122 || Nat.beq t 123)) || (Nat.ble 164 t && Nat.blt t 179)) || lk_p2 t) = true := by decide +kernel
theorem lk_p1n : lk_p1 121 = false := by decide +kernel
theorem lk_p2n : (List.range 187).all (fun t => !(lk_p2 t) || !(Nat.ble 8 t && Nat.blt t 29)) = true := by decide +kernel
theorem lk_in1 {t : Nat} (h : t = 0 ∨ t = 122 ∨ t = 123 ∨ (8 ≤ t ∧ t < 29) ∨ (164 ≤ t ∧ t < 179)) : lk_p1 t = true := by
  have g := List.all_eq_true.mp lk_p1m t (List.mem_range.mpr (by omega))
  rw [Bool.or_eq_true] at g
  rcases g with g | g
  · rw [Bool.not_eq_true'] at g
    simp only [Bool.or_eq_false_iff] at g
    obtain ⟨⟨g1, g2, g3⟩, g4, g5⟩ := g
    rcases h with rfl | rfl | rfl | h | h
    · cases g1
    · cases g2
    · cases g3
    · rw [Nat.ble_eq_true_of_le h.1, show Nat.blt t 29 = true from Nat.ble_eq_true_of_le h.2] at g4
      cases g4
    · rw [Nat.ble_eq_true_of_le h.1, show Nat.blt t 179 = true from Nat.ble_eq_true_of_le h.2] at g5
      cases g5
  · exact g
theorem lk_in2 {t : Nat} (h : t = 0 ∨ t = 121 ∨ t = 122 ∨ t = 123 ∨ (164 ≤ t ∧ t < 179)) : lk_p2 t = true := by
  have g := List.all_eq_true.mp lk_p2m t (List.mem_range.mpr (by omega))
  rw [Bool.or_eq_true] at g
  rcases g with g | g
  · rw [Bool.not_eq_true'] at g
    simp only [Bool.or_eq_false_iff] at g
    obtain ⟨⟨g1, g2, g3, g4⟩, g5⟩ := g
    rcases h with rfl | rfl | rfl | rfl | h
    · cases g1
    · cases g2
    · cases g3
    · cases g4
    · rw [Nat.ble_eq_true_of_le h.1, show Nat.blt t 179 = true from Nat.ble_eq_true_of_le h.2] at g5
      cases g5
  · exact g
theorem lk_out2 {t : Nat} (h : lk_p2 t = true) : ¬ (8 ≤ t ∧ t < 29) := fun q => by
  have g := List.all_eq_true.mp lk_p2n t (List.mem_range.mpr (lk_bt_lt h))
  rw [h, Nat.ble_eq_true_of_le q.1, show Nat.blt t 29 = true from Nat.ble_eq_true_of_le q.2] at g
  cases g
theorem lk_P0_ok {t : Nat} (h : lk_P0 t = true) : t < 197 ∧ t ≠ 121 ∧ t ≠ 122 ∧ t ≠ 123 ∧ ¬ (8 ≤ t ∧ t < 29) ∧ ¬ (164 ≤ t ∧ t < 179) := by
  unfold lk_P0 lk_ch at h
  simp only [Bool.and_eq_true, Bool.not_eq_true', Bool.or_eq_false_iff] at h
  obtain ⟨h1, ⟨h2, h3, h4⟩, h5, h6⟩ := h
  refine ⟨Nat.le_of_ble_eq_true h1, Nat.ne_of_beq_eq_false h2, Nat.ne_of_beq_eq_false h3, Nat.ne_of_beq_eq_false h4, fun q => ?_, fun q => ?_⟩
  · rw [Nat.ble_eq_true_of_le q.1, show Nat.blt t 29 = true from Nat.ble_eq_true_of_le q.2] at h5
    cases h5
  · rw [Nat.ble_eq_true_of_le q.1, show Nat.blt t 179 = true from Nat.ble_eq_true_of_le q.2] at h6
    cases h6
theorem lk_P0f_ok {t : Nat} (h : lk_P0f t = true) : t < 197 ∧ t ≠ 121 := by
  unfold lk_P0f at h
  simp only [Bool.and_eq_true, Bool.not_eq_true'] at h
  exact ⟨Nat.le_of_ble_eq_true h.1, Nat.ne_of_beq_eq_false h.2⟩
theorem lk_hp1 : ∀ t, lk_p1 t = true → t < raY.1.1 := fun t h => by
  have := lk_bt_lt h
  show t < 425
  omega
theorem lk_hp2 : ∀ t, lk_p2 t = true → t < rbY.1.1 := fun t h => by
  have := lk_bt_lt h
  show t < 438
  omega
theorem lk_hB : ∀ t, (lk_P0 t = true ∨ lk_p1 t = true ∨ lk_p2 t = true) → t < 199 := fun t h => by
  rcases h with h | h | h
  · have := (lk_P0_ok h).1
    omega
  · have := lk_bt_lt h
    omega
  · have := lk_bt_lt h
    omega
theorem lk_hBf : ∀ t, (lk_P0f t = true ∨ lk_p1 t = true ∨ lk_p2 t = true) → t < 199 := fun t h => by
  rcases h with h | h | h
  · have := (lk_P0f_ok h).1
    omega
  · have := lk_bt_lt h
    omega
  · have := lk_bt_lt h
    omega
/-- the invariant out of a view -/
theorem lk_Jof {r1 r2 rF : Nat → Int} (ok : rb_ok rF) (view : ra_view r1 r2 0) (same : ∀ t, lk_ld t → rF t = r1 t) (h : ∀ t, (8 ≤ t ∧ t < 29) → rF t = r2 t) : lx_J rF := by
  obtain ⟨v1, v2⟩ := view
  refine ⟨ok, ?_, fun l hl hn p hp => ?_⟩
  · rw [h 8 (by omega), lk_pl same 5 (Nat.le_refl _)]
    exact v1
  · rw [h _ (by omega), lk_S same hl]
    exact v2 l hl (by rw [← same 123 (Or.inr (Or.inl rfl))]; exact hn) p hp
/-- numbers of the land -/
theorem lk_bd {r : Nat → Int} (hE : ai_gE r gq_E) : (0 ≤ r 122 ∧ r 122 ≤ 4) ∧ (0 ≤ r 123 ∧ r 123 ≤ 5) ∧ ∀ l, l < 5 → (0 ≤ r (164 + l) ∧ r (164 + l) ≤ 3) ∧ (0 ≤ r (169 + l) ∧ r (169 + l) ≤ 3) ∧ (0 ≤ r (174 + l) ∧ r (174 + l) ≤ 9) := by
  have h : ((122, ((0 : Int), (4 : Int))) ∈ gq_E.2.1 ∧ (123, ((0 : Int), (5 : Int))) ∈ gq_E.2.1) ∧ ∀ l ∈ List.range 5, (164 + l, ((0 : Int), (3 : Int))) ∈ gq_E.2.1 ∧ (169 + l, ((0 : Int), (3 : Int))) ∈ gq_E.2.1 ∧ (174 + l, ((0 : Int), (9 : Int))) ∈ gq_E.2.1 := by decide +kernel
  refine ⟨(hE.2.2.2.1 _ h.1.1).2, (hE.2.2.2.1 _ h.1.2).2, fun l hl => ?_⟩
  obtain ⟨a, b, c⟩ := h.2 l (List.mem_range.mpr hl)
  exact ⟨(hE.2.2.2.1 _ a).2, (hE.2.2.2.1 _ b).2, (hE.2.2.2.1 _ c).2⟩
theorem lk_H {r : Nat → Int} (hE : ai_gE r gq_E) (h : rb_ok r) : fy_H r := ⟨h, (lk_bd hE).2.2, (lk_bd hE).2.1, (lk_bd hE).1⟩
theorem lk_Hc {r r2 : Nat → Int} (h : fy_H r) (g : ∀ t, lk_ld t → r2 t = r t) : fy_H r2 := by
  obtain ⟨h1, h2, h3, h4⟩ := h
  refine ⟨lk_ok h1 g, fun l hl => ?_, ?_, ?_⟩
  · rw [g (164 + l) (Or.inr (Or.inr (by omega))), g (169 + l) (Or.inr (Or.inr (by omega))), g (174 + l) (Or.inr (Or.inr (by omega)))]
    exact h2 l hl
  · rw [g 123 (Or.inr (Or.inl rfl))]
    exact h3
  · rw [g 122 (Or.inl rfl)]
    exact h4
section LKX
variable {r4 : Nat → Int} {cc : Nat → Nat → Int} {X : List (Nat × Nat × Nat)} {AL : List (Nat × ai_X)} {E' : ai_E}
theorem lk_r1 {t : Nat} (h : lk_p1 t = true) : gq_rn r4 cc lk_p1 X AL E' t = r4 t := gq_rn_p h
theorem lk_r2 {t : Nat} (h : lk_p2 t = true) {a : Int} : gq_rn (pt_set r4 197 a) cc lk_p2 X AL E' t = r4 t := (gq_rn_p h).trans (if_neg (by have := lk_bt_lt h; omega))
theorem lk_l1 {t : Nat} (h : lk_ld t) : lk_p1 t = true := lk_in1 (by unfold lk_ld at h; omega)
theorem lk_l2 {t : Nat} (h : lk_ld t) : lk_p2 t = true := lk_in2 (by unfold lk_ld at h; omega)
end LKX
theorem lk_keep {t : Nat} (h : t < 187) (g : ¬ (8 ≤ t ∧ t < 29)) : ra_keep t := by
  unfold ra_keep
  omega
noncomputable def gq_row (w pc1 m1 : Nat) (kd1 : Bool) (Y1 : pt_Y) (S1 bb1 : List ai_V) (AL1 : List (Nat × ai_X)) (x1 : ai_X) (b1 : Nat × Nat) (pc2 m2 : Nat) (kd2 : Bool) (Y2 : pt_Y) (S2 bb2 : List ai_V) (AL2 : List (Nat × ai_X)) (b2 : Nat × Nat) (x2 : ai_X) (sp3 : List (Nat × Int)) (hF : ai_H) (C : List Nat) (Pf : List (Nat × Nat × Nat)) : Bool := match lx_run [] [pc1] 16 gq_rd false 40 lx_L [.inl (0, .ofNat w)] (gq_E, lx_h, 0, 0) with
  | some fs => fs.all (gq_c1 pc1 m1 kd1 Y1 S1 bb1 AL1 x1 b1 pc2 (gq_c2 pc2 m2 kd2 Y2 S2 bb2 AL2 b1 x2 (gq_sps sp3 (gq_E, hF, b1.1 + b2.1, b1.2 + b2.2)) C Pf))
  | none => false
theorem gq_row_of {w pc1 m1 : Nat} {kd1 : Bool} {Y1 : pt_Y} {S1 bb1 : List ai_V} {AL1 : List (Nat × ai_X)} {x1 : ai_X} {b1 : Nat × Nat} {pc2 m2 : Nat} {kd2 : Bool} {Y2 : pt_Y} {S2 bb2 : List ai_V} {AL2 : List (Nat × ai_X)} {b2 : Nat × Nat} {x2 : ai_X} {sp3 : List (Nat × Int)} {hF : ai_H} {C : List Nat} {Pf : List (Nat × Nat × Nat)} (h : gq_row w pc1 m1 kd1 Y1 S1 bb1 AL1 x1 b1 pc2 m2 kd2 Y2 S2 bb2 AL2 b2 x2 sp3 hF C Pf = true) : (match lx_run [] [pc1] 16 gq_rd false 40 lx_L [.inl (0, .ofNat w)] (gq_E, lx_h, 0, 0) with
  | some fs => fs.all (gq_c1 pc1 m1 kd1 Y1 S1 bb1 AL1 x1 b1 pc2 (gq_c2 pc2 m2 kd2 Y2 S2 bb2 AL2 b1 x2 (gq_sps sp3 (gq_E, hF, b1.1 + b2.1, b1.2 + b2.2)) C Pf))
  | none => false) = true := by
  unfold gq_row at h
  exact h
