/-! THE LAW: write; the sheet told, its place and the number by boxes -/
noncomputable def lx_zP4 : Nat → List (Nat × Nat × Nat)
  | 0 => [(1, 0, 4), (70, 264, 1), (225, 70, 0), (226, 70, 1), (227, 70, 2), (228, 70, 3), (229, 70, 4), (230, 70, 5), (231, 70, 6), (232, 70, 7), (233, 70, 8), (234, 70, 9), (235, 70, 10), (236, 70, 11)]
  | 1 => [(1, 0, 4), (70, 264, 1), (237, 71, 0), (238, 71, 1), (239, 71, 2), (240, 71, 3), (241, 71, 4), (242, 71, 5), (243, 71, 6), (244, 71, 7), (245, 71, 8), (246, 71, 9), (247, 71, 10), (248, 71, 11)]
  | 2 => [(1, 0, 4), (70, 264, 1), (249, 72, 0), (250, 72, 1), (251, 72, 2), (252, 72, 3), (253, 72, 4), (254, 72, 5), (255, 72, 6), (256, 72, 7), (257, 72, 8), (258, 72, 9), (259, 72, 10), (260, 72, 11)]
  | 3 => [(1, 0, 4), (70, 264, 1), (261, 73, 0), (262, 73, 1), (263, 73, 2), (264, 73, 3), (265, 73, 4), (266, 73, 5), (267, 73, 6), (268, 73, 7), (269, 73, 8), (270, 73, 9), (271, 73, 10), (272, 73, 11)]
  | 4 => [(1, 0, 4), (70, 264, 1), (273, 74, 0), (274, 74, 1), (275, 74, 2), (276, 74, 3), (277, 74, 4), (278, 74, 5), (279, 74, 6), (280, 74, 7), (281, 74, 8), (282, 74, 9), (283, 74, 10), (284, 74, 11)]
  | 5 => [(1, 0, 4), (70, 264, 1), (285, 75, 0), (286, 75, 1), (287, 75, 2), (288, 75, 3), (289, 75, 4), (290, 75, 5), (291, 75, 6), (292, 75, 7), (293, 75, 8), (294, 75, 9), (295, 75, 10), (296, 75, 11)]
  | 6 => [(1, 0, 4), (70, 264, 1), (297, 76, 0), (298, 76, 1), (299, 76, 2), (300, 76, 3), (301, 76, 4), (302, 76, 5), (303, 76, 6), (304, 76, 7), (305, 76, 8), (306, 76, 9), (307, 76, 10), (308, 76, 11)]
  | 7 => [(1, 0, 4), (70, 264, 1), (309, 77, 0), (310, 77, 1), (311, 77, 2), (312, 77, 3), (313, 77, 4), (314, 77, 5), (315, 77, 6), (316, 77, 7), (317, 77, 8), (318, 77, 9), (319, 77, 10), (320, 77, 11)]
  | 8 => [(1, 0, 4), (70, 264, 1), (321, 78, 0), (322, 78, 1), (323, 78, 2), (324, 78, 3), (325, 78, 4), (326, 78, 5), (327, 78, 6), (328, 78, 7), (329, 78, 8), (330, 78, 9), (331, 78, 10), (332, 78, 11)]
  | 9 => [(1, 0, 4), (70, 264, 1), (333, 79, 0), (334, 79, 1), (335, 79, 2), (336, 79, 3), (337, 79, 4), (338, 79, 5), (339, 79, 6), (340, 79, 7), (341, 79, 8), (342, 79, 9), (343, 79, 10), (344, 79, 11)]
  | 10 => [(1, 0, 4), (70, 264, 1), (345, 80, 0), (346, 80, 1), (347, 80, 2), (348, 80, 3), (349, 80, 4), (350, 80, 5), (351, 80, 6), (352, 80, 7), (353, 80, 8), (354, 80, 9), (355, 80, 10), (356, 80, 11)]
  | _ => [(1, 0, 4), (70, 264, 1), (357, 81, 0), (358, 81, 1), (359, 81, 2), (360, 81, 3), (361, 81, 4), (362, 81, 5), (363, 81, 6), (364, 81, 7), (365, 81, 8), (366, 81, 9), (367, 81, 10), (368, 81, 11)]
theorem lx_zpa4 : (List.range 12).all (fun q => lx_pc (lx_zP4 q)) = true := by decide +kernel
theorem lx_zp4 : ∀ q, lx_pc (lx_zP4 q) = true := fun q => if h : q < 11 then List.all_eq_true.mp lx_zpa4 q (List.mem_range.mpr (by omega)) else by
    have e : lx_zP4 q = lx_zP4 11 := by
      match q, h with
      | 0, h => exact absurd (by omega) h
      | 1, h => exact absurd (by omega) h
      | 2, h => exact absurd (by omega) h
      | 3, h => exact absurd (by omega) h
      | 4, h => exact absurd (by omega) h
      | 5, h => exact absurd (by omega) h
      | 6, h => exact absurd (by omega) h
      | 7, h => exact absurd (by omega) h
      | 8, h => exact absurd (by omega) h
      | 9, h => exact absurd (by omega) h
      | 10, h => exact absurd (by omega) h
      | n + 11, _ => rfl
    rw [e]
    exact List.all_eq_true.mp lx_zpa4 11 (List.mem_range.mpr (by omega))
noncomputable def lx_zT4 : List (Nat × us_C) := []
theorem lx_zT4_ok : lt_all 60 lx_zT4 := trivial
noncomputable def lx_zB4 : Int → List (Int × Int) := fun k => if k = 2 then [(.negSucc 2147483647, .negSucc 0), (.ofNat 0, .ofNat 0), (.ofNat 1, .ofNat 1), (.ofNat 2, .ofNat 2), (.ofNat 3, .ofNat 3), (.ofNat 4, .ofNat 4), (.ofNat 5, .ofNat 5), (.ofNat 6, .ofNat 6), (.ofNat 7, .ofNat 7), (.ofNat 8, .ofNat 8), (.ofNat 9, .ofNat 9), (.ofNat 10, .ofNat 10), (.ofNat 11, .ofNat 11), (.ofNat 12, .ofNat 2147483647)] else if k = 3 then [(.negSucc 2147483647, .negSucc 32768), (.negSucc 32767, .ofNat 32767), (.ofNat 32768, .ofNat 2147483647)] else [(ai_lo32, ai_hi32)]
theorem lx_zB4_kc : (List.range 10).all (fun k => bx_cov ai_lo32 (lx_zB4 (.ofNat k))) = true := by decide +kernel
theorem lx_zB4_kl : lx_zB4 (lx_kap 4) = [(.negSucc 2147483647, .negSucc 0), (.ofNat 0, .ofNat 0), (.ofNat 1, .ofNat 1), (.ofNat 2, .ofNat 2), (.ofNat 3, .ofNat 3), (.ofNat 4, .ofNat 4), (.ofNat 5, .ofNat 5), (.ofNat 6, .ofNat 6), (.ofNat 7, .ofNat 7), (.ofNat 8, .ofNat 8), (.ofNat 9, .ofNat 9), (.ofNat 10, .ofNat 10), (.ofNat 11, .ofNat 11), (.ofNat 12, .ofNat 2147483647)] := by decide +kernel
noncomputable def lx_k4 (q : Nat) (f : ai_F) : Bool := lx_kJ [283, 70 + q] (lx_zP4 q) (73, 0) f
noncomputable def lx_k4n (f : ai_F) : Bool := lx_kJ [] (lx_zP4 0) (73, 0) f
