/-! THE LAW: write; the sheet told, its place and the number by boxes -/
noncomputable def lx_o4 (q : Nat) : List (Nat × ai_X) := lx_oJ ((104, (104, 0)) :: ((List.range 144).filter (fun j => !(Nat.beq (j / 12) q))).map (fun j => (175 + j, (175 + j, 0))))
noncomputable def lx_zP4 : Nat → List (Nat × Nat × Nat)
  | 0 => [(1, 0, 4), (100, 264, 1), (175, 70, 0), (176, 70, 1), (177, 70, 2), (178, 70, 3), (179, 70, 4), (180, 70, 5), (181, 70, 6), (182, 70, 7), (183, 70, 8), (184, 70, 9), (185, 70, 10), (186, 70, 11)]
  | 1 => [(1, 0, 4), (100, 264, 1), (187, 71, 0), (188, 71, 1), (189, 71, 2), (190, 71, 3), (191, 71, 4), (192, 71, 5), (193, 71, 6), (194, 71, 7), (195, 71, 8), (196, 71, 9), (197, 71, 10), (198, 71, 11)]
  | 2 => [(1, 0, 4), (100, 264, 1), (199, 72, 0), (200, 72, 1), (201, 72, 2), (202, 72, 3), (203, 72, 4), (204, 72, 5), (205, 72, 6), (206, 72, 7), (207, 72, 8), (208, 72, 9), (209, 72, 10), (210, 72, 11)]
  | 3 => [(1, 0, 4), (100, 264, 1), (211, 73, 0), (212, 73, 1), (213, 73, 2), (214, 73, 3), (215, 73, 4), (216, 73, 5), (217, 73, 6), (218, 73, 7), (219, 73, 8), (220, 73, 9), (221, 73, 10), (222, 73, 11)]
  | 4 => [(1, 0, 4), (100, 264, 1), (223, 74, 0), (224, 74, 1), (225, 74, 2), (226, 74, 3), (227, 74, 4), (228, 74, 5), (229, 74, 6), (230, 74, 7), (231, 74, 8), (232, 74, 9), (233, 74, 10), (234, 74, 11)]
  | 5 => [(1, 0, 4), (100, 264, 1), (235, 75, 0), (236, 75, 1), (237, 75, 2), (238, 75, 3), (239, 75, 4), (240, 75, 5), (241, 75, 6), (242, 75, 7), (243, 75, 8), (244, 75, 9), (245, 75, 10), (246, 75, 11)]
  | 6 => [(1, 0, 4), (100, 264, 1), (247, 76, 0), (248, 76, 1), (249, 76, 2), (250, 76, 3), (251, 76, 4), (252, 76, 5), (253, 76, 6), (254, 76, 7), (255, 76, 8), (256, 76, 9), (257, 76, 10), (258, 76, 11)]
  | 7 => [(1, 0, 4), (100, 264, 1), (259, 77, 0), (260, 77, 1), (261, 77, 2), (262, 77, 3), (263, 77, 4), (264, 77, 5), (265, 77, 6), (266, 77, 7), (267, 77, 8), (268, 77, 9), (269, 77, 10), (270, 77, 11)]
  | 8 => [(1, 0, 4), (100, 264, 1), (271, 78, 0), (272, 78, 1), (273, 78, 2), (274, 78, 3), (275, 78, 4), (276, 78, 5), (277, 78, 6), (278, 78, 7), (279, 78, 8), (280, 78, 9), (281, 78, 10), (282, 78, 11)]
  | 9 => [(1, 0, 4), (100, 264, 1), (283, 79, 0), (284, 79, 1), (285, 79, 2), (286, 79, 3), (287, 79, 4), (288, 79, 5), (289, 79, 6), (290, 79, 7), (291, 79, 8), (292, 79, 9), (293, 79, 10), (294, 79, 11)]
  | 10 => [(1, 0, 4), (100, 264, 1), (295, 80, 0), (296, 80, 1), (297, 80, 2), (298, 80, 3), (299, 80, 4), (300, 80, 5), (301, 80, 6), (302, 80, 7), (303, 80, 8), (304, 80, 9), (305, 80, 10), (306, 80, 11)]
  | _ => [(1, 0, 4), (100, 264, 1), (307, 81, 0), (308, 81, 1), (309, 81, 2), (310, 81, 3), (311, 81, 4), (312, 81, 5), (313, 81, 6), (314, 81, 7), (315, 81, 8), (316, 81, 9), (317, 81, 10), (318, 81, 11)]
theorem lx_zpa4 : (List.range 12).all (fun q => lx_pc (lx_zP4 q)) = true := by decide +kernel
theorem lx_zp4 : ∀ q, lx_pc (lx_zP4 q) = true := fun q => if h : q < 11 then List.all_eq_true.mp lx_zpa4 q (List.mem_range.mpr (by omega)) else by
    have e : lx_zP4 q = lx_zP4 11 := by
      match q, h with
      | 0, h => exact absurd (by omega) h
      | 1, h => exact absurd (by omega) h
      | 2, h => exact absurd (by omega) h
      | 3, h => exact absurd (by omega) h
      | 4, h => exact absurd (by omega) h
      | 5, h => exact absurd (by omega) h
      | 6, h => exact absurd (by omega) h
      | 7, h => exact absurd (by omega) h
      | 8, h => exact absurd (by omega) h
      | 9, h => exact absurd (by omega) h
      | 10, h => exact absurd (by omega) h
      | n + 11, _ => rfl
    rw [e]
    exact List.all_eq_true.mp lx_zpa4 11 (List.mem_range.mpr (by omega))
noncomputable def lx_zT4 : List (Nat × us_C) := []
theorem lx_zT4_ok : lt_all 60 lx_zT4 := trivial
noncomputable def lx_zB4 : Int → List (Int × Int) := fun k => if k = 2 then [(.negSucc 2147483647, .negSucc 0), (.ofNat 0, .ofNat 0), (.ofNat 1, .ofNat 1), (.ofNat 2, .ofNat 2), (.ofNat 3, .ofNat 3), (.ofNat 4, .ofNat 4), (.ofNat 5, .ofNat 5), (.ofNat 6, .ofNat 6), (.ofNat 7, .ofNat 7), (.ofNat 8, .ofNat 8), (.ofNat 9, .ofNat 9), (.ofNat 10, .ofNat 10), (.ofNat 11, .ofNat 11), (.ofNat 12, .ofNat 2147483647)] else if k = 3 then [(.negSucc 2147483647, .negSucc 32768), (.negSucc 32767, .ofNat 32767), (.ofNat 32768, .ofNat 2147483647)] else [(ai_lo32, ai_hi32)]
theorem lx_zB4_kc : (List.range 10).all (fun k => bx_cov ai_lo32 (lx_zB4 (.ofNat k))) = true := by decide +kernel
theorem lx_zB4_kl : lx_zB4 (lx_kap 4) = [(.negSucc 2147483647, .negSucc 0), (.ofNat 0, .ofNat 0), (.ofNat 1, .ofNat 1), (.ofNat 2, .ofNat 2), (.ofNat 3, .ofNat 3), (.ofNat 4, .ofNat 4), (.ofNat 5, .ofNat 5), (.ofNat 6, .ofNat 6), (.ofNat 7, .ofNat 7), (.ofNat 8, .ofNat 8), (.ofNat 9, .ofNat 9), (.ofNat 10, .ofNat 10), (.ofNat 11, .ofNat 11), (.ofNat 12, .ofNat 2147483647)] := by decide +kernel
noncomputable def lx_k4 (q : Nat) (f : ai_F) : Bool := match ai_le (.ofNat (q + 1)) (ai_iv f.2.2.2.1 (104, 0)).1 with
  | true => Nat.blt 104 f.2.2.2.1.1 && lx_fin [283, 70 + q] (lx_zP4 q) [] 0 (lx_o4 q) f
  | false => lx_fin [283, 70 + q] (lx_zP4 q) [] 0 (lx_oJ lx_jo) f
noncomputable def lx_k4n (f : ai_F) : Bool := lx_fin [] (lx_zP4 0) [] 0 (lx_oJ lx_jo) f
