/-! THE LAW: write; the sheet told, its place and the number by boxes -/
noncomputable def lx_zP4 : Nat → List (Nat × Nat × Nat)
  | 0 => [(1, 0, 4), (72, 264, 1), (227, 70, 0), (228, 70, 1), (229, 70, 2), (230, 70, 3), (231, 70, 4), (232, 70, 5), (233, 70, 6), (234, 70, 7), (235, 70, 8), (236, 70, 9), (237, 70, 10), (238, 70, 11)]
  | 1 => [(1, 0, 4), (72, 264, 1), (239, 71, 0), (240, 71, 1), (241, 71, 2), (242, 71, 3), (243, 71, 4), (244, 71, 5), (245, 71, 6), (246, 71, 7), (247, 71, 8), (248, 71, 9), (249, 71, 10), (250, 71, 11)]
  | 2 => [(1, 0, 4), (72, 264, 1), (251, 72, 0), (252, 72, 1), (253, 72, 2), (254, 72, 3), (255, 72, 4), (256, 72, 5), (257, 72, 6), (258, 72, 7), (259, 72, 8), (260, 72, 9), (261, 72, 10), (262, 72, 11)]
  | 3 => [(1, 0, 4), (72, 264, 1), (263, 73, 0), (264, 73, 1), (265, 73, 2), (266, 73, 3), (267, 73, 4), (268, 73, 5), (269, 73, 6), (270, 73, 7), (271, 73, 8), (272, 73, 9), (273, 73, 10), (274, 73, 11)]
  | 4 => [(1, 0, 4), (72, 264, 1), (275, 74, 0), (276, 74, 1), (277, 74, 2), (278, 74, 3), (279, 74, 4), (280, 74, 5), (281, 74, 6), (282, 74, 7), (283, 74, 8), (284, 74, 9), (285, 74, 10), (286, 74, 11)]
  | 5 => [(1, 0, 4), (72, 264, 1), (287, 75, 0), (288, 75, 1), (289, 75, 2), (290, 75, 3), (291, 75, 4), (292, 75, 5), (293, 75, 6), (294, 75, 7), (295, 75, 8), (296, 75, 9), (297, 75, 10), (298, 75, 11)]
  | 6 => [(1, 0, 4), (72, 264, 1), (299, 76, 0), (300, 76, 1), (301, 76, 2), (302, 76, 3), (303, 76, 4), (304, 76, 5), (305, 76, 6), (306, 76, 7), (307, 76, 8), (308, 76, 9), (309, 76, 10), (310, 76, 11)]
  | 7 => [(1, 0, 4), (72, 264, 1), (311, 77, 0), (312, 77, 1), (313, 77, 2), (314, 77, 3), (315, 77, 4), (316, 77, 5), (317, 77, 6), (318, 77, 7), (319, 77, 8), (320, 77, 9), (321, 77, 10), (322, 77, 11)]
  | 8 => [(1, 0, 4), (72, 264, 1), (323, 78, 0), (324, 78, 1), (325, 78, 2), (326, 78, 3), (327, 78, 4), (328, 78, 5), (329, 78, 6), (330, 78, 7), (331, 78, 8), (332, 78, 9), (333, 78, 10), (334, 78, 11)]
  | 9 => [(1, 0, 4), (72, 264, 1), (335, 79, 0), (336, 79, 1), (337, 79, 2), (338, 79, 3), (339, 79, 4), (340, 79, 5), (341, 79, 6), (342, 79, 7), (343, 79, 8), (344, 79, 9), (345, 79, 10), (346, 79, 11)]
  | 10 => [(1, 0, 4), (72, 264, 1), (347, 80, 0), (348, 80, 1), (349, 80, 2), (350, 80, 3), (351, 80, 4), (352, 80, 5), (353, 80, 6), (354, 80, 7), (355, 80, 8), (356, 80, 9), (357, 80, 10), (358, 80, 11)]
  | _ => [(1, 0, 4), (72, 264, 1), (359, 81, 0), (360, 81, 1), (361, 81, 2), (362, 81, 3), (363, 81, 4), (364, 81, 5), (365, 81, 6), (366, 81, 7), (367, 81, 8), (368, 81, 9), (369, 81, 10), (370, 81, 11)]
theorem lx_zpa4 : (List.range 12).all (fun q => lx_pc (lx_zP4 q)) = true := by decide +kernel
theorem lx_zp4 : ∀ q, lx_pc (lx_zP4 q) = true := fun q => if h : q < 11 then List.all_eq_true.mp lx_zpa4 q (List.mem_range.mpr (by omega)) else by
    have e : lx_zP4 q = lx_zP4 11 := by
      match q, h with
      | 0, h => exact absurd (by omega) h
      | 1, h => exact absurd (by omega) h
      | 2, h => exact absurd (by omega) h
      | 3, h => exact absurd (by omega) h
      | 4, h => exact absurd (by omega) h
      | 5, h => exact absurd (by omega) h
      | 6, h => exact absurd (by omega) h
      | 7, h => exact absurd (by omega) h
      | 8, h => exact absurd (by omega) h
      | 9, h => exact absurd (by omega) h
      | 10, h => exact absurd (by omega) h
      | n + 11, _ => rfl
    rw [e]
    exact List.all_eq_true.mp lx_zpa4 11 (List.mem_range.mpr (by omega))
noncomputable def lx_zT4 : List (Nat × us_C) := []
theorem lx_zT4_ok : lt_all 60 lx_zT4 := trivial
noncomputable def lx_zB4 : Int → List (Int × Int) := fun k => if k = 2 then [(.negSucc 2147483647, .negSucc 0), (.ofNat 0, .ofNat 0), (.ofNat 1, .ofNat 1), (.ofNat 2, .ofNat 2), (.ofNat 3, .ofNat 3), (.ofNat 4, .ofNat 4), (.ofNat 5, .ofNat 5), (.ofNat 6, .ofNat 6), (.ofNat 7, .ofNat 7), (.ofNat 8, .ofNat 8), (.ofNat 9, .ofNat 9), (.ofNat 10, .ofNat 10), (.ofNat 11, .ofNat 11), (.ofNat 12, .ofNat 2147483647)] else if k = 3 then [(.negSucc 2147483647, .negSucc 32768), (.negSucc 32767, .ofNat 32767), (.ofNat 32768, .ofNat 2147483647)] else [(ai_lo32, ai_hi32)]
theorem lx_zB4_kc : (List.range 10).all (fun k => bx_cov ai_lo32 (lx_zB4 (.ofNat k))) = true := by decide +kernel
theorem lx_zB4_kl : lx_zB4 (lx_kap 4) = [(.negSucc 2147483647, .negSucc 0), (.ofNat 0, .ofNat 0), (.ofNat 1, .ofNat 1), (.ofNat 2, .ofNat 2), (.ofNat 3, .ofNat 3), (.ofNat 4, .ofNat 4), (.ofNat 5, .ofNat 5), (.ofNat 6, .ofNat 6), (.ofNat 7, .ofNat 7), (.ofNat 8, .ofNat 8), (.ofNat 9, .ofNat 9), (.ofNat 10, .ofNat 10), (.ofNat 11, .ofNat 11), (.ofNat 12, .ofNat 2147483647)] := by decide +kernel
noncomputable def lx_k4 (q : Nat) (f : ai_F) : Bool := lx_kJ [283, 70 + q] (lx_zP4 q) (75, 0) f
noncomputable def lx_k4n (f : ai_F) : Bool := lx_kJ [] (lx_zP4 0) (75, 0) f
