/-! THE LEAST (the class): span -/
noncomputable def zs_le (m : Nat) : Nat := 5 + 8 * m
noncomputable def zs_bx (m : Nat) : pt_X := [(0, 728, 0), (1, 0, .ofNat m), (2, 9, 0), (1, 0, 1), (2, 5, 0)]
noncomputable def zs_hx (m h : Nat) : pt_X := [(0, zs_le m, 0), (0, 145 + m, 0), (0, 730, 0), (1, 0, .ofNat (zs_w h)), (2, 3, 0), (1, 0, 3), (2, 4, 0), (2, 1, 0), (2, 11, 0), (0, 415 + m, 0), (2, 12, 0)]
noncomputable def zs_wx (m : Nat) : pt_X := [(0, 729, 0), (0, 415 + m, 0), (2, 12, 0)]
noncomputable def zs_cx (m h q : Nat) : pt_X := [(1, 0, 0), (0, 145 + m, 0), (0, 185 + 4 * m + q, 0), (2, 12, 0), (0, 145 + m, 0), (0, 730, 0), (1, 0, .ofNat (zs_w h)), (2, 3, 0), (1, 0, 3), (2, 4, 0), (2, 1, 0), (2, 12, 0), (2, 11, 0), (0, 415 + m, 0), (2, 12, 0)]
noncomputable def zs_L (m : Nat) (x : ai_V) : List ai_V := [wa_r 87, wa_i 728, wa_i 729, wa_i 730, wa_i 731, wa_k m, x]
noncomputable def zs_lh (m : Nat) : List ai_V := zs_L m wa_u
noncomputable def zs_B (m : Nat) : List (Nat × Int × Int) := [(73, (.ofNat (m + 1), 4)), (415 + m, (0, 7)), (730, (0, 26)), (zs_le m, (0, 7)), (729, (0, 7))]
noncomputable def zs_sl (h b : Nat) : Int × Int := match b with
  | 0 => (-1, (h : Int) - 1)
  | _ => ((h : Int) + 1, 3)
noncomputable def zs_W (m : Nat) (x y : pt_X) : List (Nat × pt_X) := [(554 + m, x), (558 + m, y)]
noncomputable def zs_to (m : Nat) (W : List (Nat × pt_X)) (g : List (Nat × pt_X × pt_X)) : pt_E := ((3, 0, 0), (zs_lh (m + 1), []), W, g)
noncomputable def zs_no (m : Nat) (W : List (Nat × pt_X)) (g : List (Nat × pt_X × pt_X)) : pt_E := ((149, 0, 0), (zs_lh m, [wa_k 0]), W, g)
noncomputable abbrev zs_r (m : Nat) (sp : List (Nat × Int)) (cp : List (Nat × Int × Int)) (le : List (ai_X × ai_X)) (Es : List pt_E) : Bool := pt_row zxY 11 [3, 149, 157] true (3, 0, 0) (zs_lh m) [] sp cp le [96, 97] Es
theorem zs_c1 : (List.range 4).all (fun m => zs_r m [] [(73, (0, .ofNat m))] [] [zs_to m (zs_W m (gz_k 0) (gz_k 0)) []] && zs_r m [] [(73, (.ofNat (m + 1), 4))] [((141 + m, 0), (731, 0)), ((731, 0), (141 + m, 0))] [zs_to m (zs_W m (gz_k 0) (gz_k 0)) []]) = true := by decide +kernel
noncomputable def zs_E01 (m h k : Nat) : List pt_E := [zs_to m ((137 + m, gz_k (.ofNat k)) :: (141 + m, gz_k (.ofNat h)) :: zs_W m (gz_k 0) (gz_k 0)) [(0, gz_k 0, zs_bx m), (0, zs_bx m, gz_k 0)],
  zs_to m ((137 + m, gz_k (.ofNat k)) :: (141 + m, gz_k (.ofNat h)) :: zs_W m (gz_p (zs_le m)) (zs_hx m h)) [(0, gz_k 1, zs_bx m), (0, gz_p (zs_le m), zs_hx m h)],
  zs_no m ((137 + m, gz_k (.ofNat k)) :: (141 + m, gz_k (.ofNat h)) :: zs_W m (gz_p (zs_le m)) (zs_hx m h)) [(0, gz_k 1, zs_bx m), (0, zs_hx m h, gz_d (zs_le m) (-1))]]
noncomputable def zs_E2 (m h : Nat) : List pt_E := [zs_to m ((137 + m, gz_k 2) :: (141 + m, gz_k (.ofNat h)) :: zs_W m (gz_p 729) (zs_wx m)) [(0, gz_p 729, zs_wx m)], zs_no m ((137 + m, gz_k 2) :: (141 + m, gz_k (.ofNat h)) :: zs_W m (gz_p 729) (zs_wx m)) [(0, zs_wx m, gz_d 729 (-1))]]
noncomputable def zs_E3 (m h q : Nat) : List pt_E := [zs_to m ((137 + m, gz_k 3) :: (141 + m, gz_k (.ofNat h)) :: (44, gz_k (.ofNat q)) :: zs_W m (gz_k 0) (zs_cx m h q)) []]
theorem zs_c2 : (List.range 4).all (fun m => (List.range 3).all (fun h => (List.range 2).all (fun b => (List.range 2).all (fun k => zs_r m [(137 + m, .ofNat k), (141 + m, .ofNat h)] ((731, zs_sl h b) :: zs_B m) [] (zs_E01 m h k)) && zs_r m [(137 + m, 2), (141 + m, .ofNat h)] ((731, zs_sl h b) :: zs_B m) [] (zs_E2 m h)))) = true := by decide +kernel
theorem zs_c3 : (List.range 4).all (fun m => (List.range 3).all (fun h => (List.range 2).all (fun b => (List.range 4).all (fun q => zs_r m [(137 + m, 3), (141 + m, .ofNat h), (44, .ofNat q)] ((731, zs_sl h b) :: zs_B m) [] (zs_E3 m h q))))) = true := by decide +kernel
theorem zs_c4 : pt_row zxY 11 [3] true (0, 0, 0) [wa_r 87, wa_i 728, wa_i 729, wa_i 730, wa_i 731, wa_u, wa_u] [] [] [] [] [] [((3, 0, 0), (zs_lh 0, []), [], [])] = true ∧ pt_row zxY 11 [157] true (3, 0, 0) (zs_lh 4) [] [] [] [] [] [((157, 0, 0), (zs_lh 4, [wa_k 1]), [], [])] = true := by decide +kernel
theorem zs_k : ((pt_is 8 11 149 = true ∧ pt_is 8 11 157 = true) ∧ (ct_mt 11).2.2.1 = 7) ∧ lh_plain 11 = true ∧ ct_bud 11 = (0, 0) := by decide +kernel
theorem zs_bd : (List.range 4).all (fun m => (zxE.2.1.any (fun q => decide (q = (137 + m, ((0 : Int), (3 : Int))))) && zxE.2.1.any (fun q => decide (q = (141 + m, ((0 : Int), (2 : Int)))))) && zxE.2.1.any (fun q => decide (q = (145 + m, ((0 : Int), (7 : Int)))))) = true ∧ zxE.2.1.any (fun q => decide (q = (73, ((0 : Int), (4 : Int))))) = true := by decide +kernel
noncomputable def zs_a : List ai_V := [wa_r 87, wa_i 728, wa_i 729, wa_i 730, wa_i 731]
noncomputable def zs_aa : List ai_V := [wa_r 87, wa_i 727, wa_i 728, wa_i 729, wa_i 730]
