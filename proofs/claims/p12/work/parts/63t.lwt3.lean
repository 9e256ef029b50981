/-! KIND asked by both contracts -/
noncomputable def kq_p1 : Nat → Bool := kt_bt 4906011513711226659732009387469053476706705817367523877112751587000953653204110238980090353879975589518004816183293
noncomputable def kq_p2 : Nat → Bool := kt_bt 18036807035703039190191210983342108370245241975615896607081033770397608822976626832779284135527633332000971030529
noncomputable def kq_X1 : List (Nat × Nat × Nat) := [(390, 335, 0), (391, 48, 0), (392, 48, 1), (393, 48, 2), (394, 48, 3), (395, 48, 4), (396, 54, 0), (397, 54, 1), (398, 54, 2), (399, 54, 3), (400, 54, 4), (401, 60, 0), (402, 60, 1), (403, 60, 2), (404, 60, 3), (405, 60, 4), (406, 66, 0), (407, 66, 1), (408, 66, 2), (409, 66, 3), (410, 66, 4), (411, 89, 0), (412, 89, 1), (413, 89, 2), (414, 89, 3), (415, 95, 0), (416, 95, 1), (417, 95, 2), (418, 95, 3)]
noncomputable def kq_X2 : List (Nat × Nat × Nat) := [(419, 291, 0), (420, 291, 1), (421, 291, 2), (422, 291, 3), (423, 291, 4)]
noncomputable def kq_A1 : List (Nat × ai_X) := [(424, (382, 0)), (425, (383, 0)), (426, (384, 0))]
noncomputable def kq_A2 : List (Nat × ai_X) := [(424, (382, 0)), (425, (383, 0)), (426, (384, 0))]
/-- what asking changes of the world's numbers -/
noncomputable def kq_c (t : Nat) : Bool := [44, 45, 12, 12 + 8, 12 + 8 * 2, 12 + 8 * 3, 70].elem t
noncomputable def kq_P (t : Nat) : Bool := Nat.blt t 391 && !(kq_c t)
theorem kq_c_ok {t : Nat} (h : kq_c t = false) (ht : t < 381) : (¬ op_ch t ∧ t ≠ 390) ∧ t ≠ 70 ∧ ¬ (419 ≤ t ∧ t < 419 + 5) := by
  have key : ∀ u, u ∈ [44, 45, 12, 12 + 8, 12 + 8 * 2, 12 + 8 * 3, 70] → t ≠ u := fun u hu e => by
    unfold kq_c at h
    rw [e, List.elem_eq_true_of_mem hu] at h
    cases h
  simp only [List.mem_cons, List.not_mem_nil, or_false] at key
  refine ⟨⟨fun c => ?_, by omega⟩, key _ (by omega), by omega⟩
  rcases c with (c | c) | c | ⟨v, hv, c | c | c⟩
  · exact key _ (by omega) c
  · exact key _ (by omega) c
  · omega
  · unfold pu_d at c
    exact key _ (by omega) c
  · omega
  · omega
/-- the offers, told by what the arrays hold -/
noncomputable def kq_l (r : Nat → Int) (M : Nat → Nat → Int) (v : Nat) : List Int := (List.range (r (lx_oc v)).toNat).map (M (47 + 6 * v))
theorem kq_lm : ∀ (l : List Int) (f : Nat → Int), (∀ j, j < l.length → f j = l.getD j 0) → (List.range l.length).map f = l
  | [], _, _ => rfl
  | c :: l, f, h => by
    rw [List.length_cons, List.range_succ_eq_map, List.map_cons, List.map_map, h 0 (Nat.succ_pos _)]
    exact congrArg (List.cons c) (kq_lm l (f ∘ Nat.succ) (fun j hj => h (j + 1) (Nat.succ_lt_succ hj)))
theorem kq_le {r : Nat → Int} {M : Nat → Nat → Int} {v : Nat} {l : List Int} (h : gw_K1 v l M r) : kq_l r M v = l := by
  obtain ⟨-, ⟨h1, h2⟩, -⟩ := h
  unfold kq_l
  rw [h1]
  exact kq_lm l _ h2
theorem kq_ik1 : gq_ik gq_E lx_h (fun _ => true) kq_p1 kq_X1 kq_A1 gdY = true := by decide +kernel
theorem kq_ik2 : gq_ik gq_E lx_h (gq_ot gdY) kq_p2 kq_X2 kq_A2 geY = true := by decide +kernel
theorem kq_gn : ((gq_gn gdY && gq_gn geY) && (gdY.2.2.1.all (gw_g1 (fun _ => true)) && geY.2.2.1.all (gw_g1 (gq_ot gdY)))) = true := by decide +kernel
theorem kq_k1 : gq_ck1 gdY geY kq_p1 kq_p2 kq_X1 kq_X2 kq_A1 kq_A2 = true := by
  unfold gq_ck1
  rw [kq_ik1, kq_ik2, kq_gn]
  rfl
theorem kq_k2 : gq_ck2 gdY geY kq_P kq_p1 kq_p2 [(392, 335, 0, 390)] [] [] kt_hF = true := by decide +kernel
theorem kq_kv : gq_cv kq_P = true := by decide +kernel
theorem kq_row : gq_row 10 772 264 true gdY [wa_r 335, wa_i 426, wa_i 425, wa_i 424, wa_r 16] (as_a ++ [wa_r 335]) kq_A1 (0, 0) (1, 6) 796 209 false geY [wa_i 426, wa_i 425, wa_i 424, wa_r 264] rq_a kq_A2 (0, 0) (392, 0) [(70, 0)] kt_hF [] kt_Pf = true := by decide +kernel
theorem kq_bud : ct_bud 264 = (1, 6) ∧ ct_bud 209 = (0, 0) := by decide +kernel
noncomputable def kq_rd (v : Nat) : List (Int × ai_X) := (1, (0, .ofNat v)) :: gq_rd.tail
theorem kq_f0 : gq_frow 10 gq_rd [(382, (-2147483648, -1))] [] [] kt_Pf = true := by decide +kernel
theorem kq_f1 : gq_frow 10 gq_rd [(382, (0, 2147483647))] [((73, 0), (382, 0))] [] kt_Pf = true := by decide +kernel
theorem kq_fu : (List.range 4).all (fun v => gq_frow 10 (kq_rd v) [(73, (.ofNat (v + 1), 4)), (383, (-2147483648, 0))] [] [] kt_Pf && gq_frow 10 (kq_rd v) [(73, (.ofNat (v + 1), 4)), (383, (1, 2147483647))] [((145 + v, 1), (383, 0))] [] kt_Pf) = true := by decide +kernel
theorem kq_fq : (List.range 4).all (fun v => gq_frow 10 (kq_rd v) [(73, (.ofNat (v + 1), 4)), (383, (1, 7)), (384, (-2147483648, -1))] [((383, 0), (145 + v, 0))] [] kt_Pf && gq_frow 10 (kq_rd v) [(73, (.ofNat (v + 1), 4)), (383, (1, 7)), (384, (4, 2147483647))] [((383, 0), (145 + v, 0))] [] kt_Pf) = true := by decide +kernel
theorem kq_lv : (List.range 4).all (fun v => (kq_rd v).all (fun q => Nat.blt q.2.1 393)) = true := by decide +kernel
theorem kq_bd : (List.range 4).all (fun v => gq_E.2.1.any (fun q => decide (q = (145 + v, ((0 : Int), (7 : Int)))))) = true := by decide +kernel
theorem kq_pm : ((kq_p1 0 = true ∧ kq_p2 0 = true) ∧ (kq_p1 73 = true ∧ kq_p2 73 = true) ∧ kq_p2 71 = true ∧ kq_p2 70 = true ∧ kq_p1 70 = false) ∧ (List.range 4).all (fun v => ((kq_p1 (145 + v) && kq_p2 (145 + v)) && (kq_p1 (149 + v) && kq_p2 (149 + v))) && (kq_p1 (lx_oc v) && kq_p2 (lx_hs v))) = true ∧ (List.range 16).all (fun j => kq_p1 (169 + j) && kq_p2 (169 + j)) = true := by decide +kernel
theorem kq_hp1 : ∀ t, kq_p1 t = true → t < gdY.1.1 := fun t h => by
  have := kt_bt_lt h
  show t < 524
  omega
theorem kq_hp2 : ∀ t, kq_p2 t = true → t < geY.1.1 := fun t h => by
  have := kt_bt_lt h
  show t < 524
  omega
theorem kq_P_ok {t : Nat} (h : kq_P t = true) : t < 391 ∧ kq_c t = false := by
  unfold kq_P at h
  rw [Bool.and_eq_true, Bool.not_eq_true'] at h
  exact ⟨Nat.le_of_ble_eq_true h.1, h.2⟩
theorem kq_hB : ∀ t, (kq_P t = true ∨ kq_p1 t = true ∨ kq_p2 t = true) → t < 393 := fun t h => by
  rcases h with h | h | h
  · have := (kq_P_ok h).1
    omega
  · have := kt_bt_lt h
    omega
  · have := kt_bt_lt h
    omega
theorem kq_pp : (List.range 381).all (fun t => !(kq_p1 t && kq_p2 t) || !(kq_c t)) = true ∧ lx_Jt.all (fun t => Nat.blt t 391 && !(kq_c t)) = true := by decide +kernel
theorem kq_both {t : Nat} (h1 : kq_p1 t = true) (h2 : kq_p2 t = true) : kq_c t = false := by
  have g := List.all_eq_true.mp kq_pp.1 t (List.mem_range.mpr (kt_bt_lt h1))
  rw [h1, h2] at g
  have g : (!(kq_c t)) = true := g
  rw [Bool.not_eq_true'] at g
  exact g
/-- loads of places that aren't there -/
theorem kq_jl : (List.range 16).all (fun j => lx_jcl.any (fun c => decide (c = ((71, 0), (0, ((j / 4 : Nat) : Int)), (169 + j, 0), (0, 0))))) = true := by decide +kernel
theorem kq_ld {r : Nat → Int} (h : lx_J r) (h0 : r 0 = 0) : ∀ j, j < 16 → r 71 ≤ ((j / 4 : Nat) : Int) → r (169 + j) = 0 := fun j hj hm => by
  obtain ⟨c, c1, c2⟩ := List.any_eq_true.mp (List.all_eq_true.mp kq_jl j (List.mem_range.mpr hj))
  have c2 := of_decide_eq_true c2
  subst c2
  have g := h _ c1 (by show r 71 + 0 ≤ r 0 + ((j / 4 : Nat) : Int); rw [h0]; omega)
  have g : r (169 + j) + 0 = r 0 + 0 := g
  omega
