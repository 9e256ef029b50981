/-! the determinants and heights of the reference as polynomials -/
theorem fy_20 (a b : Int) : ai_op 20 a b = (a + b).bmod 18446744073709551616 := rfl
theorem fy_21 (a b : Int) : ai_op 21 a b = (a - b).bmod 18446744073709551616 := rfl
theorem fy_22 (a b : Int) : ai_op 22 a b = (a * b).bmod 18446744073709551616 := rfl
theorem fy_dx1 (r : Nat → Int) : pt_v r (rb_dx 1) = ((1 : Int)).bmod 18446744073709551616 := by
  show ((1 : Int)) = _
  rfl
theorem fy_dx2 (r : Nat → Int) : pt_v r (rb_dx 2) = (((0 : Int) + (((1 : Int) * r 196) * (1 : Int)))).bmod 18446744073709551616 := by
  show ai_op 20 ((0 : Int)) (ai_op 22 (ai_op 22 ((1 : Int)) (r 196)) ((1 : Int))) = _
  simp only [fy_20, fy_21, fy_22, Int.add_bmod_bmod, Int.bmod_add_bmod, Int.bmod_mul_bmod, Int.mul_bmod_bmod, Int.sub_bmod_bmod, Int.bmod_sub_bmod]
theorem fy_dx3 (r : Nat → Int) : pt_v r (rb_dx 3) = ((((0 : Int) + (((1 : Int) * r 196) * ((0 : Int) + (((1 : Int) * r 201) * (1 : Int))))) + (((-1 : Int) * r 197) * ((0 : Int) + (((1 : Int) * r 200) * (1 : Int)))))).bmod 18446744073709551616 := by
  show ai_op 20 (ai_op 20 ((0 : Int)) (ai_op 22 (ai_op 22 ((1 : Int)) (r 196)) (ai_op 20 ((0 : Int)) (ai_op 22 (ai_op 22 ((1 : Int)) (r 201)) ((1 : Int)))))) (ai_op 22 (ai_op 22 ((-1 : Int)) (r 197)) (ai_op 20 ((0 : Int)) (ai_op 22 (ai_op 22 ((1 : Int)) (r 200)) ((1 : Int))))) = _
  simp only [fy_20, fy_21, fy_22, Int.add_bmod_bmod, Int.bmod_add_bmod, Int.bmod_mul_bmod, Int.mul_bmod_bmod, Int.sub_bmod_bmod, Int.bmod_sub_bmod]
theorem fy_dx4 (r : Nat → Int) : pt_v r (rb_dx 4) = (((((0 : Int) + (((1 : Int) * r 196) * (((0 : Int) + (((1 : Int) * r 201) * ((0 : Int) + (((1 : Int) * r 206) * (1 : Int))))) + (((-1 : Int) * r 202) * ((0 : Int) + (((1 : Int) * r 205) * (1 : Int))))))) + (((-1 : Int) * r 197) * (((0 : Int) + (((1 : Int) * r 200) * ((0 : Int) + (((1 : Int) * r 206) * (1 : Int))))) + (((-1 : Int) * r 202) * ((0 : Int) + (((1 : Int) * r 204) * (1 : Int))))))) + (((1 : Int) * r 198) * (((0 : Int) + (((1 : Int) * r 200) * ((0 : Int) + (((1 : Int) * r 205) * (1 : Int))))) + (((-1 : Int) * r 201) * ((0 : Int) + (((1 : Int) * r 204) * (1 : Int)))))))).bmod 18446744073709551616 := by
  show ai_op 20 (ai_op 20 (ai_op 20 ((0 : Int)) (ai_op 22 (ai_op 22 ((1 : Int)) (r 196)) (ai_op 20 (ai_op 20 ((0 : Int)) (ai_op 22 (ai_op 22 ((1 : Int)) (r 201)) (ai_op 20 ((0 : Int)) (ai_op 22 (ai_op 22 ((1 : Int)) (r 206)) ((1 : Int)))))) (ai_op 22 (ai_op 22 ((-1 : Int)) (r 202)) (ai_op 20 ((0 : Int)) (ai_op 22 (ai_op 22 ((1 : Int)) (r 205)) ((1 : Int)))))))) (ai_op 22 (ai_op 22 ((-1 : Int)) (r 197)) (ai_op 20 (ai_op 20 ((0 : Int)) (ai_op 22 (ai_op 22 ((1 : Int)) (r 200)) (ai_op 20 ((0 : Int)) (ai_op 22 (ai_op 22 ((1 : Int)) (r 206)) ((1 : Int)))))) (ai_op 22 (ai_op 22 ((-1 : Int)) (r 202)) (ai_op 20 ((0 : Int)) (ai_op 22 (ai_op 22 ((1 : Int)) (r 204)) ((1 : Int)))))))) (ai_op 22 (ai_op 22 ((1 : Int)) (r 198)) (ai_op 20 (ai_op 20 ((0 : Int)) (ai_op 22 (ai_op 22 ((1 : Int)) (r 200)) (ai_op 20 ((0 : Int)) (ai_op 22 (ai_op 22 ((1 : Int)) (r 205)) ((1 : Int)))))) (ai_op 22 (ai_op 22 ((-1 : Int)) (r 201)) (ai_op 20 ((0 : Int)) (ai_op 22 (ai_op 22 ((1 : Int)) (r 204)) ((1 : Int))))))) = _
  simp only [fy_20, fy_21, fy_22, Int.add_bmod_bmod, Int.bmod_add_bmod, Int.bmod_mul_bmod, Int.mul_bmod_bmod, Int.sub_bmod_bmod, Int.bmod_sub_bmod]
theorem fy_hx2_00 (r : Nat → Int) : pt_v r (rb_hx 2 0 0) = ((1 : Int)).bmod 18446744073709551616 := by
  show ((1 : Int)) = _
  rfl
theorem fy_hx2_01 (r : Nat → Int) : pt_v r (rb_hx 2 0 1) = ((0 : Int)).bmod 18446744073709551616 := by
  show ((0 : Int)) = _
  rfl
theorem fy_hx2_10 (r : Nat → Int) : pt_v r (rb_hx 2 1 0) = ((0 : Int)).bmod 18446744073709551616 := by
  show ((0 : Int)) = _
  rfl
theorem fy_hx2_11 (r : Nat → Int) : pt_v r (rb_hx 2 1 1) = ((0 : Int)).bmod 18446744073709551616 := by
  show ((0 : Int)) = _
  rfl
theorem fy_hx3_00 (r : Nat → Int) : pt_v r (rb_hx 3 0 0) = (((0 : Int) + (((1 : Int) * r 201) * (1 : Int)))).bmod 18446744073709551616 := by
  show ai_op 20 ((0 : Int)) (ai_op 22 (ai_op 22 ((1 : Int)) (r 201)) ((1 : Int))) = _
  simp only [fy_20, fy_21, fy_22, Int.add_bmod_bmod, Int.bmod_add_bmod, Int.bmod_mul_bmod, Int.mul_bmod_bmod, Int.sub_bmod_bmod, Int.bmod_sub_bmod]
theorem fy_hx3_01 (r : Nat → Int) : pt_v r (rb_hx 3 0 1) = (((0 : Int) - ((0 : Int) + (((1 : Int) * r 197) * (1 : Int))))).bmod 18446744073709551616 := by
  show ai_op 21 ((0 : Int)) (ai_op 20 ((0 : Int)) (ai_op 22 (ai_op 22 ((1 : Int)) (r 197)) ((1 : Int)))) = _
  simp only [fy_20, fy_21, fy_22, Int.add_bmod_bmod, Int.bmod_add_bmod, Int.bmod_mul_bmod, Int.mul_bmod_bmod, Int.sub_bmod_bmod, Int.bmod_sub_bmod]
theorem fy_hx3_02 (r : Nat → Int) : pt_v r (rb_hx 3 0 2) = ((0 : Int)).bmod 18446744073709551616 := by
  show ((0 : Int)) = _
  rfl
theorem fy_hx3_10 (r : Nat → Int) : pt_v r (rb_hx 3 1 0) = (((0 : Int) - ((0 : Int) + (((1 : Int) * r 200) * (1 : Int))))).bmod 18446744073709551616 := by
  show ai_op 21 ((0 : Int)) (ai_op 20 ((0 : Int)) (ai_op 22 (ai_op 22 ((1 : Int)) (r 200)) ((1 : Int)))) = _
  simp only [fy_20, fy_21, fy_22, Int.add_bmod_bmod, Int.bmod_add_bmod, Int.bmod_mul_bmod, Int.mul_bmod_bmod, Int.sub_bmod_bmod, Int.bmod_sub_bmod]
theorem fy_hx3_11 (r : Nat → Int) : pt_v r (rb_hx 3 1 1) = (((0 : Int) + (((1 : Int) * r 196) * (1 : Int)))).bmod 18446744073709551616 := by
  show ai_op 20 ((0 : Int)) (ai_op 22 (ai_op 22 ((1 : Int)) (r 196)) ((1 : Int))) = _
  simp only [fy_20, fy_21, fy_22, Int.add_bmod_bmod, Int.bmod_add_bmod, Int.bmod_mul_bmod, Int.mul_bmod_bmod, Int.sub_bmod_bmod, Int.bmod_sub_bmod]
theorem fy_hx3_12 (r : Nat → Int) : pt_v r (rb_hx 3 1 2) = ((0 : Int)).bmod 18446744073709551616 := by
  show ((0 : Int)) = _
  rfl
theorem fy_hx3_20 (r : Nat → Int) : pt_v r (rb_hx 3 2 0) = ((0 : Int)).bmod 18446744073709551616 := by
  show ((0 : Int)) = _
  rfl
theorem fy_hx3_21 (r : Nat → Int) : pt_v r (rb_hx 3 2 1) = ((0 : Int)).bmod 18446744073709551616 := by
  show ((0 : Int)) = _
  rfl
theorem fy_hx3_22 (r : Nat → Int) : pt_v r (rb_hx 3 2 2) = ((0 : Int)).bmod 18446744073709551616 := by
  show ((0 : Int)) = _
  rfl
theorem fy_hx4_00 (r : Nat → Int) : pt_v r (rb_hx 4 0 0) = ((((0 : Int) + (((1 : Int) * r 201) * ((0 : Int) + (((1 : Int) * r 206) * (1 : Int))))) + (((-1 : Int) * r 202) * ((0 : Int) + (((1 : Int) * r 205) * (1 : Int)))))).bmod 18446744073709551616 := by
  show ai_op 20 (ai_op 20 ((0 : Int)) (ai_op 22 (ai_op 22 ((1 : Int)) (r 201)) (ai_op 20 ((0 : Int)) (ai_op 22 (ai_op 22 ((1 : Int)) (r 206)) ((1 : Int)))))) (ai_op 22 (ai_op 22 ((-1 : Int)) (r 202)) (ai_op 20 ((0 : Int)) (ai_op 22 (ai_op 22 ((1 : Int)) (r 205)) ((1 : Int))))) = _
  simp only [fy_20, fy_21, fy_22, Int.add_bmod_bmod, Int.bmod_add_bmod, Int.bmod_mul_bmod, Int.mul_bmod_bmod, Int.sub_bmod_bmod, Int.bmod_sub_bmod]
theorem fy_hx4_01 (r : Nat → Int) : pt_v r (rb_hx 4 0 1) = (((0 : Int) - (((0 : Int) + (((1 : Int) * r 197) * ((0 : Int) + (((1 : Int) * r 206) * (1 : Int))))) + (((-1 : Int) * r 198) * ((0 : Int) + (((1 : Int) * r 205) * (1 : Int))))))).bmod 18446744073709551616 := by
  show ai_op 21 ((0 : Int)) (ai_op 20 (ai_op 20 ((0 : Int)) (ai_op 22 (ai_op 22 ((1 : Int)) (r 197)) (ai_op 20 ((0 : Int)) (ai_op 22 (ai_op 22 ((1 : Int)) (r 206)) ((1 : Int)))))) (ai_op 22 (ai_op 22 ((-1 : Int)) (r 198)) (ai_op 20 ((0 : Int)) (ai_op 22 (ai_op 22 ((1 : Int)) (r 205)) ((1 : Int)))))) = _
  simp only [fy_20, fy_21, fy_22, Int.add_bmod_bmod, Int.bmod_add_bmod, Int.bmod_mul_bmod, Int.mul_bmod_bmod, Int.sub_bmod_bmod, Int.bmod_sub_bmod]
theorem fy_hx4_02 (r : Nat → Int) : pt_v r (rb_hx 4 0 2) = ((((0 : Int) + (((1 : Int) * r 197) * ((0 : Int) + (((1 : Int) * r 202) * (1 : Int))))) + (((-1 : Int) * r 198) * ((0 : Int) + (((1 : Int) * r 201) * (1 : Int)))))).bmod 18446744073709551616 := by
  show ai_op 20 (ai_op 20 ((0 : Int)) (ai_op 22 (ai_op 22 ((1 : Int)) (r 197)) (ai_op 20 ((0 : Int)) (ai_op 22 (ai_op 22 ((1 : Int)) (r 202)) ((1 : Int)))))) (ai_op 22 (ai_op 22 ((-1 : Int)) (r 198)) (ai_op 20 ((0 : Int)) (ai_op 22 (ai_op 22 ((1 : Int)) (r 201)) ((1 : Int))))) = _
  simp only [fy_20, fy_21, fy_22, Int.add_bmod_bmod, Int.bmod_add_bmod, Int.bmod_mul_bmod, Int.mul_bmod_bmod, Int.sub_bmod_bmod, Int.bmod_sub_bmod]
theorem fy_hx4_03 (r : Nat → Int) : pt_v r (rb_hx 4 0 3) = ((0 : Int)).bmod 18446744073709551616 := by
  show ((0 : Int)) = _
  rfl
theorem fy_hx4_10 (r : Nat → Int) : pt_v r (rb_hx 4 1 0) = (((0 : Int) - (((0 : Int) + (((1 : Int) * r 200) * ((0 : Int) + (((1 : Int) * r 206) * (1 : Int))))) + (((-1 : Int) * r 202) * ((0 : Int) + (((1 : Int) * r 204) * (1 : Int))))))).bmod 18446744073709551616 := by
  show ai_op 21 ((0 : Int)) (ai_op 20 (ai_op 20 ((0 : Int)) (ai_op 22 (ai_op 22 ((1 : Int)) (r 200)) (ai_op 20 ((0 : Int)) (ai_op 22 (ai_op 22 ((1 : Int)) (r 206)) ((1 : Int)))))) (ai_op 22 (ai_op 22 ((-1 : Int)) (r 202)) (ai_op 20 ((0 : Int)) (ai_op 22 (ai_op 22 ((1 : Int)) (r 204)) ((1 : Int)))))) = _
  simp only [fy_20, fy_21, fy_22, Int.add_bmod_bmod, Int.bmod_add_bmod, Int.bmod_mul_bmod, Int.mul_bmod_bmod, Int.sub_bmod_bmod, Int.bmod_sub_bmod]
theorem fy_hx4_11 (r : Nat → Int) : pt_v r (rb_hx 4 1 1) = ((((0 : Int) + (((1 : Int) * r 196) * ((0 : Int) + (((1 : Int) * r 206) * (1 : Int))))) + (((-1 : Int) * r 198) * ((0 : Int) + (((1 : Int) * r 204) * (1 : Int)))))).bmod 18446744073709551616 := by
  show ai_op 20 (ai_op 20 ((0 : Int)) (ai_op 22 (ai_op 22 ((1 : Int)) (r 196)) (ai_op 20 ((0 : Int)) (ai_op 22 (ai_op 22 ((1 : Int)) (r 206)) ((1 : Int)))))) (ai_op 22 (ai_op 22 ((-1 : Int)) (r 198)) (ai_op 20 ((0 : Int)) (ai_op 22 (ai_op 22 ((1 : Int)) (r 204)) ((1 : Int))))) = _
  simp only [fy_20, fy_21, fy_22, Int.add_bmod_bmod, Int.bmod_add_bmod, Int.bmod_mul_bmod, Int.mul_bmod_bmod, Int.sub_bmod_bmod, Int.bmod_sub_bmod]
theorem fy_hx4_12 (r : Nat → Int) : pt_v r (rb_hx 4 1 2) = (((0 : Int) - (((0 : Int) + (((1 : Int) * r 196) * ((0 : Int) + (((1 : Int) * r 202) * (1 : Int))))) + (((-1 : Int) * r 198) * ((0 : Int) + (((1 : Int) * r 200) * (1 : Int))))))).bmod 18446744073709551616 := by
  show ai_op 21 ((0 : Int)) (ai_op 20 (ai_op 20 ((0 : Int)) (ai_op 22 (ai_op 22 ((1 : Int)) (r 196)) (ai_op 20 ((0 : Int)) (ai_op 22 (ai_op 22 ((1 : Int)) (r 202)) ((1 : Int)))))) (ai_op 22 (ai_op 22 ((-1 : Int)) (r 198)) (ai_op 20 ((0 : Int)) (ai_op 22 (ai_op 22 ((1 : Int)) (r 200)) ((1 : Int)))))) = _
  simp only [fy_20, fy_21, fy_22, Int.add_bmod_bmod, Int.bmod_add_bmod, Int.bmod_mul_bmod, Int.mul_bmod_bmod, Int.sub_bmod_bmod, Int.bmod_sub_bmod]
theorem fy_hx4_13 (r : Nat → Int) : pt_v r (rb_hx 4 1 3) = ((0 : Int)).bmod 18446744073709551616 := by
  show ((0 : Int)) = _
  rfl
theorem fy_hx4_20 (r : Nat → Int) : pt_v r (rb_hx 4 2 0) = ((((0 : Int) + (((1 : Int) * r 200) * ((0 : Int) + (((1 : Int) * r 205) * (1 : Int))))) + (((-1 : Int) * r 201) * ((0 : Int) + (((1 : Int) * r 204) * (1 : Int)))))).bmod 18446744073709551616 := by
  show ai_op 20 (ai_op 20 ((0 : Int)) (ai_op 22 (ai_op 22 ((1 : Int)) (r 200)) (ai_op 20 ((0 : Int)) (ai_op 22 (ai_op 22 ((1 : Int)) (r 205)) ((1 : Int)))))) (ai_op 22 (ai_op 22 ((-1 : Int)) (r 201)) (ai_op 20 ((0 : Int)) (ai_op 22 (ai_op 22 ((1 : Int)) (r 204)) ((1 : Int))))) = _
  simp only [fy_20, fy_21, fy_22, Int.add_bmod_bmod, Int.bmod_add_bmod, Int.bmod_mul_bmod, Int.mul_bmod_bmod, Int.sub_bmod_bmod, Int.bmod_sub_bmod]
theorem fy_hx4_21 (r : Nat → Int) : pt_v r (rb_hx 4 2 1) = (((0 : Int) - (((0 : Int) + (((1 : Int) * r 196) * ((0 : Int) + (((1 : Int) * r 205) * (1 : Int))))) + (((-1 : Int) * r 197) * ((0 : Int) + (((1 : Int) * r 204) * (1 : Int))))))).bmod 18446744073709551616 := by
  show ai_op 21 ((0 : Int)) (ai_op 20 (ai_op 20 ((0 : Int)) (ai_op 22 (ai_op 22 ((1 : Int)) (r 196)) (ai_op 20 ((0 : Int)) (ai_op 22 (ai_op 22 ((1 : Int)) (r 205)) ((1 : Int)))))) (ai_op 22 (ai_op 22 ((-1 : Int)) (r 197)) (ai_op 20 ((0 : Int)) (ai_op 22 (ai_op 22 ((1 : Int)) (r 204)) ((1 : Int)))))) = _
  simp only [fy_20, fy_21, fy_22, Int.add_bmod_bmod, Int.bmod_add_bmod, Int.bmod_mul_bmod, Int.mul_bmod_bmod, Int.sub_bmod_bmod, Int.bmod_sub_bmod]
theorem fy_hx4_22 (r : Nat → Int) : pt_v r (rb_hx 4 2 2) = ((((0 : Int) + (((1 : Int) * r 196) * ((0 : Int) + (((1 : Int) * r 201) * (1 : Int))))) + (((-1 : Int) * r 197) * ((0 : Int) + (((1 : Int) * r 200) * (1 : Int)))))).bmod 18446744073709551616 := by
  show ai_op 20 (ai_op 20 ((0 : Int)) (ai_op 22 (ai_op 22 ((1 : Int)) (r 196)) (ai_op 20 ((0 : Int)) (ai_op 22 (ai_op 22 ((1 : Int)) (r 201)) ((1 : Int)))))) (ai_op 22 (ai_op 22 ((-1 : Int)) (r 197)) (ai_op 20 ((0 : Int)) (ai_op 22 (ai_op 22 ((1 : Int)) (r 200)) ((1 : Int))))) = _
  simp only [fy_20, fy_21, fy_22, Int.add_bmod_bmod, Int.bmod_add_bmod, Int.bmod_mul_bmod, Int.mul_bmod_bmod, Int.sub_bmod_bmod, Int.bmod_sub_bmod]
theorem fy_hx4_23 (r : Nat → Int) : pt_v r (rb_hx 4 2 3) = ((0 : Int)).bmod 18446744073709551616 := by
  show ((0 : Int)) = _
  rfl
theorem fy_hx4_30 (r : Nat → Int) : pt_v r (rb_hx 4 3 0) = ((0 : Int)).bmod 18446744073709551616 := by
  show ((0 : Int)) = _
  rfl
theorem fy_hx4_31 (r : Nat → Int) : pt_v r (rb_hx 4 3 1) = ((0 : Int)).bmod 18446744073709551616 := by
  show ((0 : Int)) = _
  rfl
theorem fy_hx4_32 (r : Nat → Int) : pt_v r (rb_hx 4 3 2) = ((0 : Int)).bmod 18446744073709551616 := by
  show ((0 : Int)) = _
  rfl
theorem fy_hx4_33 (r : Nat → Int) : pt_v r (rb_hx 4 3 3) = ((0 : Int)).bmod 18446744073709551616 := by
  show ((0 : Int)) = _
  rfl
