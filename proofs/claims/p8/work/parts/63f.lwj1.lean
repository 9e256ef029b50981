/-! THE LAW: sheet; how many there are told one by one, the next one holds 0 -/
noncomputable def lx_sps : List Nat → ai_G → ai_G
  | [], G => G
  | t :: l, G => lx_sps l (lx_sp t 0 G)
theorem lx_sp16' {t : Nat} {k : Int} {G : ai_G} (h : ∀ q, q < 16 → ai_cell G.2.1 q = none) : ∀ q, q < 16 → ai_cell (lx_sp t k G).2.1 q = none := fun q hq => by
  cases t with
  | zero => exact h q hq
  | succ t =>
    show ai_cell (sp_h (t + 1) k G.2.1) q = none
    rw [sp_cell, h q hq]
    rfl
theorem lx_spsE : ∀ {l : List Nat} {G : ai_G}, (lx_sps l G).1 = G.1 ∧ (lx_sps l G).2.1.1 = G.2.1.1 ∧ (lx_sps l G).2.2 = G.2.2
  | [], _ => ⟨rfl, rfl, rfl⟩
  | t :: l, G => by
    obtain ⟨a, b, c⟩ := lx_spsE (l := l) (G := lx_sp t 0 G)
    exact ⟨a, b.trans lx_spn, c⟩
theorem lx_sps_ok {s : State} {D : va_G} {tyc : Nat → ClassId} {A : Nat → Prop} {sa : ai_B} {ws : va_W} {nL : Nat} {r : Nat → Int} {ad : Nat → Nat} {L S : List ai_V} {H : Heap} {locs : List Loc} {ls : Array Slot} {st : List Value} : ∀ {q : List Nat} {G : ai_G}, ai_Rel D tyc A s sa ws nL r ad L S G H locs ls st → (∀ t ∈ q, r t = 0) → (∀ z, z < 16 → ai_cell G.2.1 z = none) → ai_Rel D tyc A s sa ws nL r ad L S (lx_sps q G) H locs ls st
  | [], G, hR, _, _ => hR
  | t :: q, G, hR, h, h16 => lx_sps_ok (q := q) (G := lx_sp t 0 G) (lx_sp_ok hR (h t List.mem_cons_self) h16) (fun z hz => h z (List.mem_cons_of_mem _ hz)) (lx_sp16' h16)
noncomputable def lx_jrow (s : Nat) : List Nat := match Nat.blt s 12 with
  | true => (List.range 12).map (fun j => 175 + (12 * s + j))
  | false => []
noncomputable def lx_z3 (q : Nat) : ai_G := lx_sps (lx_jrow q) (lx_sp 104 (.ofNat q) lx_z0)
noncomputable def lx_o3 (q k : Nat) : List (Nat × ai_X) := lx_oJ ((104, (0, .ofNat k)) :: ((List.range 144).filter (fun j => Nat.ble q (j / 12))).map (fun j => (175 + j, match Nat.beq (j / 12) q with
  | true => (0, 0)
  | false => (175 + j, 0))))
noncomputable def lx_zP3 : Nat → List (Nat × Nat × Nat)
  | 0 => [(1, 0, 4), (100, 264, 1), (104, 68, 0), (151, 82, 0), (163, 83, 0), (175, 70, 0), (176, 70, 1), (177, 70, 2), (178, 70, 3), (179, 70, 4), (180, 70, 5), (181, 70, 6), (182, 70, 7), (183, 70, 8), (184, 70, 9), (185, 70, 10), (186, 70, 11)]
  | 1 => [(1, 0, 4), (100, 264, 1), (104, 68, 0), (152, 82, 1), (164, 83, 1), (187, 71, 0), (188, 71, 1), (189, 71, 2), (190, 71, 3), (191, 71, 4), (192, 71, 5), (193, 71, 6), (194, 71, 7), (195, 71, 8), (196, 71, 9), (197, 71, 10), (198, 71, 11)]
  | 2 => [(1, 0, 4), (100, 264, 1), (104, 68, 0), (153, 82, 2), (165, 83, 2), (199, 72, 0), (200, 72, 1), (201, 72, 2), (202, 72, 3), (203, 72, 4), (204, 72, 5), (205, 72, 6), (206, 72, 7), (207, 72, 8), (208, 72, 9), (209, 72, 10), (210, 72, 11)]
  | 3 => [(1, 0, 4), (100, 264, 1), (104, 68, 0), (154, 82, 3), (166, 83, 3), (211, 73, 0), (212, 73, 1), (213, 73, 2), (214, 73, 3), (215, 73, 4), (216, 73, 5), (217, 73, 6), (218, 73, 7), (219, 73, 8), (220, 73, 9), (221, 73, 10), (222, 73, 11)]
  | 4 => [(1, 0, 4), (100, 264, 1), (104, 68, 0), (155, 82, 4), (167, 83, 4), (223, 74, 0), (224, 74, 1), (225, 74, 2), (226, 74, 3), (227, 74, 4), (228, 74, 5), (229, 74, 6), (230, 74, 7), (231, 74, 8), (232, 74, 9), (233, 74, 10), (234, 74, 11)]
  | 5 => [(1, 0, 4), (100, 264, 1), (104, 68, 0), (156, 82, 5), (168, 83, 5), (235, 75, 0), (236, 75, 1), (237, 75, 2), (238, 75, 3), (239, 75, 4), (240, 75, 5), (241, 75, 6), (242, 75, 7), (243, 75, 8), (244, 75, 9), (245, 75, 10), (246, 75, 11)]
  | 6 => [(1, 0, 4), (100, 264, 1), (104, 68, 0), (157, 82, 6), (169, 83, 6), (247, 76, 0), (248, 76, 1), (249, 76, 2), (250, 76, 3), (251, 76, 4), (252, 76, 5), (253, 76, 6), (254, 76, 7), (255, 76, 8), (256, 76, 9), (257, 76, 10), (258, 76, 11)]
  | 7 => [(1, 0, 4), (100, 264, 1), (104, 68, 0), (158, 82, 7), (170, 83, 7), (259, 77, 0), (260, 77, 1), (261, 77, 2), (262, 77, 3), (263, 77, 4), (264, 77, 5), (265, 77, 6), (266, 77, 7), (267, 77, 8), (268, 77, 9), (269, 77, 10), (270, 77, 11)]
  | 8 => [(1, 0, 4), (100, 264, 1), (104, 68, 0), (159, 82, 8), (171, 83, 8), (271, 78, 0), (272, 78, 1), (273, 78, 2), (274, 78, 3), (275, 78, 4), (276, 78, 5), (277, 78, 6), (278, 78, 7), (279, 78, 8), (280, 78, 9), (281, 78, 10), (282, 78, 11)]
  | 9 => [(1, 0, 4), (100, 264, 1), (104, 68, 0), (160, 82, 9), (172, 83, 9), (283, 79, 0), (284, 79, 1), (285, 79, 2), (286, 79, 3), (287, 79, 4), (288, 79, 5), (289, 79, 6), (290, 79, 7), (291, 79, 8), (292, 79, 9), (293, 79, 10), (294, 79, 11)]
  | 10 => [(1, 0, 4), (100, 264, 1), (104, 68, 0), (161, 82, 10), (173, 83, 10), (295, 80, 0), (296, 80, 1), (297, 80, 2), (298, 80, 3), (299, 80, 4), (300, 80, 5), (301, 80, 6), (302, 80, 7), (303, 80, 8), (304, 80, 9), (305, 80, 10), (306, 80, 11)]
  | 11 => [(1, 0, 4), (100, 264, 1), (104, 68, 0), (162, 82, 11), (174, 83, 11), (307, 81, 0), (308, 81, 1), (309, 81, 2), (310, 81, 3), (311, 81, 4), (312, 81, 5), (313, 81, 6), (314, 81, 7), (315, 81, 8), (316, 81, 9), (317, 81, 10), (318, 81, 11)]
  | _ => [(1, 0, 4), (100, 264, 1), (104, 68, 0)]
theorem lx_zpa3 : (List.range 13).all (fun q => lx_pc (lx_zP3 q)) = true := by decide +kernel
theorem lx_zp3 : ∀ q, lx_pc (lx_zP3 q) = true := fun q => if h : q < 12 then List.all_eq_true.mp lx_zpa3 q (List.mem_range.mpr (by omega)) else by
    have e : lx_zP3 q = lx_zP3 12 := by
      match q, h with
      | 0, h => exact absurd (by omega) h
      | 1, h => exact absurd (by omega) h
      | 2, h => exact absurd (by omega) h
      | 3, h => exact absurd (by omega) h
      | 4, h => exact absurd (by omega) h
      | 5, h => exact absurd (by omega) h
      | 6, h => exact absurd (by omega) h
      | 7, h => exact absurd (by omega) h
      | 8, h => exact absurd (by omega) h
      | 9, h => exact absurd (by omega) h
      | 10, h => exact absurd (by omega) h
      | 11, h => exact absurd (by omega) h
      | n + 12, _ => rfl
    rw [e]
    exact List.all_eq_true.mp lx_zpa3 12 (List.mem_range.mpr (by omega))
noncomputable def lx_zT3 : List (Nat × us_C) := []
theorem lx_zT3_ok : lt_all 60 lx_zT3 := trivial
noncomputable def lx_k3 (q : Nat) (f : ai_F) : Bool := lx_fin [82, 83, 281, 282, 283, 70 + q] (lx_zP3 q) [] 0 (lx_o3 q q) f || lx_fin [82, 83, 281, 282, 283, 70 + q] (lx_zP3 q) [] 0 (lx_o3 q (q + 1)) f
theorem lx_z3_0 : lx_zck 3 lx_zT3 bx_0 [] (lx_k3 0) (lx_z3 0) = true := by decide +kernel
theorem lx_z3_1 : lx_zck 3 lx_zT3 bx_0 [] (lx_k3 1) (lx_z3 1) = true := by decide +kernel
theorem lx_z3_2 : lx_zck 3 lx_zT3 bx_0 [] (lx_k3 2) (lx_z3 2) = true := by decide +kernel
theorem lx_z3_3 : lx_zck 3 lx_zT3 bx_0 [] (lx_k3 3) (lx_z3 3) = true := by decide +kernel
theorem lx_z3_4 : lx_zck 3 lx_zT3 bx_0 [] (lx_k3 4) (lx_z3 4) = true := by decide +kernel
theorem lx_z3_5 : lx_zck 3 lx_zT3 bx_0 [] (lx_k3 5) (lx_z3 5) = true := by decide +kernel
theorem lx_z3_6 : lx_zck 3 lx_zT3 bx_0 [] (lx_k3 6) (lx_z3 6) = true := by decide +kernel
theorem lx_z3_7 : lx_zck 3 lx_zT3 bx_0 [] (lx_k3 7) (lx_z3 7) = true := by decide +kernel
theorem lx_z3_8 : lx_zck 3 lx_zT3 bx_0 [] (lx_k3 8) (lx_z3 8) = true := by decide +kernel
theorem lx_z3_9 : lx_zck 3 lx_zT3 bx_0 [] (lx_k3 9) (lx_z3 9) = true := by decide +kernel
theorem lx_z3_10 : lx_zck 3 lx_zT3 bx_0 [] (lx_k3 10) (lx_z3 10) = true := by decide +kernel
theorem lx_z3_11 : lx_zck 3 lx_zT3 bx_0 [] (lx_k3 11) (lx_z3 11) = true := by decide +kernel
theorem lx_z3_12 : lx_zck 3 lx_zT3 bx_0 [] (lx_k3 12) (lx_z3 12) = true := by decide +kernel
theorem lx_z3r : ∀ q, q ≤ 12 → lx_zck 3 lx_zT3 bx_0 [] (lx_k3 q) (lx_z3 q) = true := fun q h => match q, h with
  | 0, _ => lx_z3_0
  | 1, _ => lx_z3_1
  | 2, _ => lx_z3_2
  | 3, _ => lx_z3_3
  | 4, _ => lx_z3_4
  | 5, _ => lx_z3_5
  | 6, _ => lx_z3_6
  | 7, _ => lx_z3_7
  | 8, _ => lx_z3_8
  | 9, _ => lx_z3_9
  | 10, _ => lx_z3_10
  | 11, _ => lx_z3_11
  | 12, _ => lx_z3_12
  | n + 13, h => absurd h (by omega)
section LZ3
variable {p : Program} {l : Launch} {e : Env} {R : Room} {s : State} {m : MethodId} {args : Array Value} {below : List Frame} {meth : Method} {c : Code} {Q : State → Prop}
variable {D : va_G} {tyc : Nat → ClassId} {A : Nat → Prop} {sa : ai_B} {ws : va_W} {b Ln z0 v k : Nat} {xs : Nat → Int32}
variable {r : Nat → Int} {ad : Nat → Nat} {H : Heap} {locs : List Loc} {ls : Array Slot} {st : List Value}
set_option maxHeartbeats 4000000 in
theorem lx_sheetJ (F : lx_Fr p R s m args meth c D tyc A sa) (hl : l.stackTraces = false) (hRf : 111 ≤ R.frames) (hRl : 8000 ≤ R.locals) (hsa : (z0, b, Ln, xs) ∈ sa.2) (hV : lx_V tyc ws r) (hvk : v ≤ k) (hk4 : k ≤ 4) (hR : ai_Rel D tyc A s sa ws 7 r ad lx_L [.inl (0, .ofNat 3)] (lx_G v 1) H locs ls st) (hi : 0 ≤ r 1 ∧ r 1 + 10 ≤ (Ln : Int)) (h5 : r 1 ≤ 5110) (h110 : r 103 = (k : Int)) (had : ad 0 = b)
    (kn : lx_Kn p l e R s m args below meth c Q D tyc A sa b (r 1)) : W p l e R s m args below meth c H locs 0 0 Q (F0 m 40 ls st) := by
  have hE : ai_gE r (lx_El v 1) := hR.env
  have hE5 : ai_gE r lx_E5 := lx_E5_ok hE
  have eN := lx_E5e v
  have hR5 := lx_wide (E := lx_El v 1) (E' := lx_E5) (h := lx_h) (c := 0) (sl := 0) eN hE5 hR
  have hN : lx_E5.1 = 320 := lx_E5N
  have hRc := hg_cap_ok hR5 (t := 1) (b := (0, 5110)) (by show 1 < lx_E5.1; rw [hN]; omega) ⟨hi.1, h5⟩
  have hRc : ai_Rel D tyc A s sa ws 7 r ad lx_L [.inl (0, .ofNat 3)] lx_z0 H locs ls st := hRc
  have bM : 0 ≤ r 104 ∧ r 104 ≤ 12 := (hE5.2.2.2.1 _ lx_zmb).2
  obtain ⟨q, hq⟩ : ∃ q : Nat, r 104 = (q : Int) := ⟨(r 104).toNat, by omega⟩
  have hR6 := lx_sp_ok (t := 104) (k := .ofNat q) hRc hq lx_no16
  have hR7 := lx_sps_ok (q := lx_jrow q) hR6 (fun t ht => by
    unfold lx_jrow at ht
    split at ht
    · rename_i hb
      have hb : q < 12 := Nat.le_of_ble_eq_true hb
      obtain ⟨j, hj, rfl⟩ := List.mem_map.mp ht
      have hj := List.mem_range.mp hj
      exact hV.2 (12 * q + j) (by omega) (by rw [hq]; omega)
    · cases ht) (lx_sp16' lx_no16)
  obtain ⟨g1, g2, g3⟩ := lx_spsE (l := lx_jrow q) (G := lx_sp 104 (.ofNat q) lx_z0)
  have gN : (lx_z3 q).1.1 = 320 := by
    show (lx_sps (lx_jrow q) (lx_sp 104 (.ofNat q) lx_z0)).1.1 = _
    rw [g1]
    exact hN
  have gh : (lx_z3 q).2.1.1 = 336 := by
    show (lx_sps (lx_jrow q) (lx_sp 104 (.ofNat q) lx_z0)).2.1.1 = _
    rw [g2]
    rfl
  have gc : (lx_z3 q).2.2 = (0, 0) := by
    show (lx_sps (lx_jrow q) (lx_sp 104 (.ofNat q) lx_z0)).2.2 = _
    rw [g3]
    rfl
  have res := lx_goJ (r := r) (r0 := r) (G := lx_z3 q) (w := 3) F hl lx_zT3_ok hRf hRl hsa hV.1 hvk hk4 hi h110 had (lx_z3r q (by omega)) hR7 ai_ext.rfl' (by rw [gN]; exact Nat.le_refl _) (by rw [gh]; omega) (fun z hz => by cases hz) (fun z hz => by cases hz) (fun f r' ad' H' locs' ls' st' hck x1 hR' => ?_) kn
  · rw [gc] at res
    exact res
  rw [gN] at x1
  have y2 : ai_ext (lx_El v 1).1 r r' := by
    rw [eN, hN]
    exact x1
  have fin : ∀ k2 : Nat, q ≤ k2 → lx_fin [82, 83, 281, 282, 283, 70 + q] (lx_zP3 q) [] 0 (lx_o3 q k2) f = true → f.1 = 23 ∧ f.2.2.2.2.2.1 ≤ 1 ∧ f.2.2.2.2.2.2 ≤ 6 ∧ ∃ r2, ai_Rel D tyc A s sa ws 7 r2 ad' lx_L [] (lx_G v 0) H' locs' ls' st' ∧ r2 1 = r' 1 + 10 ∧ r2 103 = r' 103 + 0 ∧ lx_J r2 := fun k2 hk2 hf => by
    obtain ⟨e1, e2, e3, r2, hR2, u⟩ := lx_fin_ok hE y2 (cx_dd v (by omega)) (lx_fin_any (lx_zp3 q) (by omega) hf) hR'
    refine ⟨e1, e2, e3, r2, hR2, u _ List.mem_cons_self, u _ (List.mem_cons_of_mem _ List.mem_cons_self), fun j hj hm => ?_⟩
    have um : r2 104 = r' 0 + (k2 : Int) := u _ (List.mem_cons_of_mem _ (List.mem_cons_of_mem _ List.mem_cons_self))
    rw [hR'.env.1, Int.zero_add] at um
    rw [um] at hm
    have hqj : q ≤ j / 12 := by omega
    have uj := u (175 + j, match Nat.beq (j / 12) q with | true => (0, 0) | false => (175 + j, 0)) (List.mem_cons_of_mem _ (List.mem_cons_of_mem _ (List.mem_cons_of_mem _ (List.mem_map.mpr ⟨j, List.mem_filter.mpr ⟨List.mem_range.mpr hj, Nat.ble_eq_true_of_le hqj⟩, rfl⟩))))
    cases eb : Nat.beq (j / 12) q with
    | true =>
      rw [eb] at uj
      have uj : r2 (175 + j) = r' 0 + 0 := uj
      rw [uj, hR'.env.1]
      rfl
    | false =>
      rw [eb] at uj
      have uj : r2 (175 + j) = r' (175 + j) + 0 := uj
      rw [uj, x1 _ (by omega), Int.add_zero]
      exact hV.2 j hj (by rw [hq]; omega)
  unfold lx_k3 at hck
  rw [Bool.or_eq_true] at hck
  rcases hck with hck | hck
  · exact fin q (Nat.le_refl _) hck
  · exact fin (q + 1) (Nat.le_succ _) hck
end LZ3
