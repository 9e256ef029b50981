/-! THE LAW: write; the sheet told, its place and the number by boxes -/
noncomputable def lx_zP4 : Nat → List (Nat × Nat × Nat)
  | 0 => [(1, 0, 4), (71, 264, 1), (226, 70, 0), (227, 70, 1), (228, 70, 2), (229, 70, 3), (230, 70, 4), (231, 70, 5), (232, 70, 6), (233, 70, 7), (234, 70, 8), (235, 70, 9), (236, 70, 10), (237, 70, 11)]
  | 1 => [(1, 0, 4), (71, 264, 1), (238, 71, 0), (239, 71, 1), (240, 71, 2), (241, 71, 3), (242, 71, 4), (243, 71, 5), (244, 71, 6), (245, 71, 7), (246, 71, 8), (247, 71, 9), (248, 71, 10), (249, 71, 11)]
  | 2 => [(1, 0, 4), (71, 264, 1), (250, 72, 0), (251, 72, 1), (252, 72, 2), (253, 72, 3), (254, 72, 4), (255, 72, 5), (256, 72, 6), (257, 72, 7), (258, 72, 8), (259, 72, 9), (260, 72, 10), (261, 72, 11)]
  | 3 => [(1, 0, 4), (71, 264, 1), (262, 73, 0), (263, 73, 1), (264, 73, 2), (265, 73, 3), (266, 73, 4), (267, 73, 5), (268, 73, 6), (269, 73, 7), (270, 73, 8), (271, 73, 9), (272, 73, 10), (273, 73, 11)]
  | 4 => [(1, 0, 4), (71, 264, 1), (274, 74, 0), (275, 74, 1), (276, 74, 2), (277, 74, 3), (278, 74, 4), (279, 74, 5), (280, 74, 6), (281, 74, 7), (282, 74, 8), (283, 74, 9), (284, 74, 10), (285, 74, 11)]
  | 5 => [(1, 0, 4), (71, 264, 1), (286, 75, 0), (287, 75, 1), (288, 75, 2), (289, 75, 3), (290, 75, 4), (291, 75, 5), (292, 75, 6), (293, 75, 7), (294, 75, 8), (295, 75, 9), (296, 75, 10), (297, 75, 11)]
  | 6 => [(1, 0, 4), (71, 264, 1), (298, 76, 0), (299, 76, 1), (300, 76, 2), (301, 76, 3), (302, 76, 4), (303, 76, 5), (304, 76, 6), (305, 76, 7), (306, 76, 8), (307, 76, 9), (308, 76, 10), (309, 76, 11)]
  | 7 => [(1, 0, 4), (71, 264, 1), (310, 77, 0), (311, 77, 1), (312, 77, 2), (313, 77, 3), (314, 77, 4), (315, 77, 5), (316, 77, 6), (317, 77, 7), (318, 77, 8), (319, 77, 9), (320, 77, 10), (321, 77, 11)]
  | 8 => [(1, 0, 4), (71, 264, 1), (322, 78, 0), (323, 78, 1), (324, 78, 2), (325, 78, 3), (326, 78, 4), (327, 78, 5), (328, 78, 6), (329, 78, 7), (330, 78, 8), (331, 78, 9), (332, 78, 10), (333, 78, 11)]
  | 9 => [(1, 0, 4), (71, 264, 1), (334, 79, 0), (335, 79, 1), (336, 79, 2), (337, 79, 3), (338, 79, 4), (339, 79, 5), (340, 79, 6), (341, 79, 7), (342, 79, 8), (343, 79, 9), (344, 79, 10), (345, 79, 11)]
  | 10 => [(1, 0, 4), (71, 264, 1), (346, 80, 0), (347, 80, 1), (348, 80, 2), (349, 80, 3), (350, 80, 4), (351, 80, 5), (352, 80, 6), (353, 80, 7), (354, 80, 8), (355, 80, 9), (356, 80, 10), (357, 80, 11)]
  | _ => [(1, 0, 4), (71, 264, 1), (358, 81, 0), (359, 81, 1), (360, 81, 2), (361, 81, 3), (362, 81, 4), (363, 81, 5), (364, 81, 6), (365, 81, 7), (366, 81, 8), (367, 81, 9), (368, 81, 10), (369, 81, 11)]
theorem lx_zpa4 : (List.range 12).all (fun q => lx_pc (lx_zP4 q)) = true := by decide +kernel
theorem lx_zp4 : ∀ q, lx_pc (lx_zP4 q) = true := fun q => if h : q < 11 then List.all_eq_true.mp lx_zpa4 q (List.mem_range.mpr (by omega)) else by
    have e : lx_zP4 q = lx_zP4 11 := by
      match q, h with
      | 0, h => exact absurd (by omega) h
      | 1, h => exact absurd (by omega) h
      | 2, h => exact absurd (by omega) h
      | 3, h => exact absurd (by omega) h
      | 4, h => exact absurd (by omega) h
      | 5, h => exact absurd (by omega) h
      | 6, h => exact absurd (by omega) h
      | 7, h => exact absurd (by omega) h
      | 8, h => exact absurd (by omega) h
      | 9, h => exact absurd (by omega) h
      | 10, h => exact absurd (by omega) h
      | n + 11, _ => rfl
    rw [e]
    exact List.all_eq_true.mp lx_zpa4 11 (List.mem_range.mpr (by omega))
noncomputable def lx_zT4 : List (Nat × us_C) := []
theorem lx_zT4_ok : lt_all 60 lx_zT4 := trivial
noncomputable def lx_zB4 : Int → List (Int × Int) := fun k => if k = 2 then [(.negSucc 2147483647, .negSucc 0), (.ofNat 0, .ofNat 0), (.ofNat 1, .ofNat 1), (.ofNat 2, .ofNat 2), (.ofNat 3, .ofNat 3), (.ofNat 4, .ofNat 4), (.ofNat 5, .ofNat 5), (.ofNat 6, .ofNat 6), (.ofNat 7, .ofNat 7), (.ofNat 8, .ofNat 8), (.ofNat 9, .ofNat 9), (.ofNat 10, .ofNat 10), (.ofNat 11, .ofNat 11), (.ofNat 12, .ofNat 2147483647)] else if k = 3 then [(.negSucc 2147483647, .negSucc 32768), (.negSucc 32767, .ofNat 32767), (.ofNat 32768, .ofNat 2147483647)] else [(ai_lo32, ai_hi32)]
theorem lx_zB4_kc : (List.range 10).all (fun k => bx_cov ai_lo32 (lx_zB4 (.ofNat k))) = true := by decide +kernel
theorem lx_zB4_kl : lx_zB4 (lx_kap 4) = [(.negSucc 2147483647, .negSucc 0), (.ofNat 0, .ofNat 0), (.ofNat 1, .ofNat 1), (.ofNat 2, .ofNat 2), (.ofNat 3, .ofNat 3), (.ofNat 4, .ofNat 4), (.ofNat 5, .ofNat 5), (.ofNat 6, .ofNat 6), (.ofNat 7, .ofNat 7), (.ofNat 8, .ofNat 8), (.ofNat 9, .ofNat 9), (.ofNat 10, .ofNat 10), (.ofNat 11, .ofNat 11), (.ofNat 12, .ofNat 2147483647)] := by decide +kernel
noncomputable def lx_k4 (q : Nat) (f : ai_F) : Bool := lx_kJ [283, 70 + q] (lx_zP4 q) (74, 0) f
noncomputable def lx_k4n (f : ai_F) : Bool := lx_kJ [] (lx_zP4 0) (74, 0) f
