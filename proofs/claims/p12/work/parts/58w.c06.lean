/-! day: LM.day, the law's helper -/
noncomputable def da_wL (what p : Nat) : List ai_V := [wa_r 16, wa_k what, wa_k p, wa_i 394, wa_i 395]
noncomputable def da_T (what p : Nat) : Nat := match what with
  | 0 => 19 + p
  | _ => 45 + 6 * p
noncomputable def da_mo (what : Nat) : Nat := match what with
  | 0 => 9
  | _ => 7
noncomputable def da_pc (what : Nat) : Nat := match what with
  | 0 => 66
  | _ => 121
noncomputable def da_wS (what p : Nat) : List ai_V := [wa_r (da_T what p), wa_k (da_mo what), wa_i 395, wa_i 394, wa_r 68]
noncomputable def da_cp (what p : Nat) : List (Nat × Int × Int) := match what with
  | 0 => [(71, (.ofNat (p + 1), 4)), (394, (0, 11))]
  | _ => [(73, (.ofNat (p + 1), 4)), (137 + p, (3, 3)), (394, (0, 11))]
noncomputable def da_wB (what p : Nat) : List ai_V := [wa_r 68, wa_i 394, wa_i 395, wa_k (da_mo what), wa_r (da_T what p)]
noncomputable def da_rB (T : Nat) : List ai_V := [wa_r 68, wa_i 392, wa_i 393, wa_i 394, wa_r T]
noncomputable def da_w (what p : Nat) : Bool := pt_row waY 139 [da_pc what] true (0, 0, 0) (da_wL what p) [] [] (da_cp what p) [((394, 1), (74, 0))] [] [((da_pc what, 0, 0), (da_wL what p, da_wS what p), [], [])] && (cy_vk 139 (da_pc what) 117 waY.2.1 (da_wS what p) (da_wB what p) [] && pt_cck waY 139 117 (da_pc what, 0, 0) 1 471 (da_wL what p) [] (da_wB what p) (da_rB (da_T what p)))
theorem da_w_c : (List.range 2).all (fun what => (List.range 4).all (da_w what)) = true := by decide +kernel
noncomputable def da_dP (r : Nat → Int) : Prop := (∃ s : Nat, s < 12 ∧ r 394 = (s : Int) ∧ r 394 + 1 ≤ r 74) ∧ ∃ p : Nat, p < 4 ∧ r 393 = (p : Int) ∧ ((r 392 = 0 ∧ r 393 + 1 ≤ r 71) ∨ (r 392 = 1 ∧ r 393 + 1 ≤ r 73 ∧ r (137 + p) = 3))
/-- what day comes to: of what, of which, out of which sheet -/
noncomputable def da_v (r : Nat → Int) (M : Nat → Nat → Int) (what s : Nat) : Int := dv_r (r (213 + s)) (r 395) ((da_mo what : Nat) : Int) (fun q => M (70 + s) ((r 395).toNat + q))
noncomputable def da_dQ (r : Nat → Int) (M : Nat → Nat → Int) (r2 : Nat → Int) (M2 : Nat → Nat → Int) (o : Option Int) : Prop := ∃ s : Nat, s < 12 ∧ r 394 = (s : Int) ∧ ∃ p : Nat, p < 4 ∧ r 393 = (p : Int) ∧ ∃ what : Nat, what < 2 ∧ r 392 = (what : Int) ∧ o = some (da_v r M what s) ∧ M2 = M ∧ ∀ t, t < 391 → r2 t = if da_v r M what s = 0 then da_nu r (da_T what p) 4 (fun q => M (70 + s) ((r 395).toNat + q)) t else r t
theorem da_Tin {what p : Nat} (h : what < 2) (hp : p < 4) : da_T what p ∈ ([19, 20, 21, 22] : List Nat) ∨ da_T what p ∈ ([45, 51, 57, 63] : List Nat) := by
  rcases (by omega : what = 0 ∨ what = 1) with rfl | rfl <;> rcases (by omega : p = 0 ∨ p = 1 ∨ p = 2 ∨ p = 3) with rfl | rfl | rfl | rfl <;> decide
set_option maxHeartbeats 2000000 in
theorem da_day {n : Nat} (hn : 5 ≤ n) : pt_Met (n + 1) 139 waY [wa_r 16, wa_i 392, wa_i 393, wa_i 394, wa_i 395] (fun r _ => da_dP r) da_dQ 1 := by
  obtain ⟨n, rfl⟩ : ∃ m, n = m + 1 := ⟨n - 1, by omega⟩
  refine pt_intro (L0 := [wa_r 16, wa_i 392, wa_i 393, wa_i 394, wa_i 395]) da_pl.2.1 (by omega) wasys (by
    rw [da_ml.2.1]
    rfl) (fun P r M h hp => ?_)
  obtain ⟨hseg, henv, hrel, -, -, -, -, -, hcall, -, hret, -, -, -⟩ := h
  refine henv _ _ _ _ _ (fun hE _ => ?_)
  have h0 : r 0 = 0 := hE.1
  obtain ⟨⟨s, hs, e3, m3⟩, p, hp4, e2, hk⟩ := hp
  obtain ⟨what, hw, e1⟩ : ∃ what : Nat, what < 2 ∧ r 392 = (what : Int) := by
    rcases hk with k | k
    · exact ⟨0, by omega, k.1⟩
    · exact ⟨1, by omega, k.1⟩
  have ck := List.all_eq_true.mp (List.all_eq_true.mp da_w_c what (List.mem_range.mpr hw)) p (List.mem_range.mpr hp4)
  unfold da_w at ck
  simp only [Bool.and_eq_true] at ck
  obtain ⟨c1, c2, c3⟩ := ck
  have bPL : r 71 ≤ 4 ∧ r 73 ≤ 4 := by
    have g : (71, ((0 : Int), (4 : Int))) ∈ waE.2.1 ∧ (73, ((0 : Int), (4 : Int))) ∈ waE.2.1 := by decide +kernel
    exact ⟨(hE.2.2.2.1 _ g.1).2.2, (hE.2.2.2.1 _ g.2).2.2⟩
  have cps : ∀ q ∈ da_cp what p, q.2.1 ≤ r q.1 ∧ r q.1 ≤ q.2.2 := by
    rcases (by omega : what = 0 ∨ what = 1) with rfl | rfl
    · have k : r 393 + 1 ≤ r 71 := by
        rcases hk with k | k
        · exact k.2
        · have := k.1
          omega
      exact pt_m2 ⟨by show ((p + 1 : Nat) : Int) ≤ r 71; omega, bPL.1⟩ ⟨by show (0 : Int) ≤ r 394; omega, by show r 394 ≤ (11 : Int); omega⟩
    · have k : r 393 + 1 ≤ r 73 ∧ r (137 + p) = 3 := by
        rcases hk with k | k
        · have := k.1
          omega
        · exact k.2
      exact pt_m3 ⟨by show ((p + 1 : Nat) : Int) ≤ r 73; omega, bPL.2⟩ ⟨by show (3 : Int) ≤ r (137 + p); omega, by show r (137 + p) ≤ (3 : Int); omega⟩ ⟨by show (0 : Int) ≤ r 394; omega, by show r 394 ≤ (11 : Int); omega⟩
  refine hrel (0, 0, 0) _ (da_wL what p) _ [] r M ⟨rfl, ⟨by show 0 < 491; omega, by show r 392 + 0 = r 0 + (what : Int); rw [h0, e1]; omega⟩, ⟨by show 0 < 491; omega, by show r 393 + 0 = r 0 + (p : Int); rw [h0, e2]; omega⟩, ⟨by show 394 < 491; omega, rfl⟩, ⟨by show 395 < 491; omega, rfl⟩, trivial⟩ trivial ?_
  refine hseg _ _ _ _ _ _ _ _ _ _ _ _ c1 ⟨pt_m0, cps, pt_m1 (by show r 394 + 1 ≤ r 74 + 0; omega)⟩ ⟨fun _ => ?_, trivial⟩
  show P (da_pc what, 0, 0) (da_wL what p) (da_wS what p) r M
  obtain ⟨ru, hru⟩ : ∃ ru, ru = pt_up r (pt_wc (da_wB what p) (da_rB (da_T what p))) := ⟨_, rfl⟩
  have ruv : ∀ t, ru t = if t = 392 then pt_v r (pt_xr (394, 0)) else if t = 393 then pt_v r (pt_xr (395, 0)) else if t = 394 then pt_v r (pt_xr (0, .ofNat (da_mo what))) else r t := fun t => by
    rw [hru]
    rfl
  have u1 : ru 392 = r 394 := by
    rw [ruv, if_pos rfl, pt_xr_ok h0]
    exact Int.add_zero _
  have u2 : ru 393 = r 395 := by
    rw [ruv, if_neg (by omega), if_pos rfl, pt_xr_ok h0]
    exact Int.add_zero _
  have u3 : ru 394 = ((da_mo what : Nat) : Int) := by
    rw [ruv, if_neg (by omega), if_neg (by omega), if_pos rfl, pt_xr_ok h0]
    show r 0 + ((da_mo what : Nat) : Int) = _
    rw [h0, Int.zero_add]
  have un : ∀ t, t < 391 → ru t = r t := fun t ht => by
    rw [ruv, if_neg (by omega), if_neg (by omega), if_neg (by omega)]
  have mo9 : (0 : Int) ≤ ((da_mo what : Nat) : Int) ∧ ((da_mo what : Nat) : Int) ≤ 9 := by
    rcases (by omega : what = 0 ∨ what = 1) with rfl | rfl <;> decide
  refine hcall (da_pc what, 0, 0) _ _ _ _ _ r M 117 1 471 _ _ da_pl.1 c2 c3 (da_read (T := da_T what p) (by omega) (da_Tin hw hp4)) (by
    rw [← hru]
    exact ⟨s, hs, by rw [u1, e3], by rw [u1, un 74 (by omega)]; exact m3, by rw [u3]; exact mo9.1, by rw [u3]; exact mo9.2⟩) (fun r1 M1 o hq => ?_)
  rw [← hru] at hq
  obtain ⟨rc, rs⟩ := wa_rm (n := n + 1) da_bu.1
  rw [rc, rs]
  obtain ⟨s', q1, q2, q3, q4, q5⟩ := hq
  have es : s' = s := by
    rw [u1, e3] at q2
    omega
  subst es
  have ev : dv_r (ru (213 + s')) (ru 393) (ru 394) (fun q => M (70 + s') ((ru 393).toNat + q)) = da_v r M what s' := by
    unfold da_v
    rw [u2, u3, un _ (by omega)]
  rw [ev] at q3 q5
  rw [u2] at q5
  subst q3
  have fin : ∀ pc, pt_is 5 139 pc = true → P (pc, 0, 0) (da_wL what p) [wa_i 471] (pt_mrg waY.2.2.2 r r1 471 (some (da_v r M what s'))) M1 := fun pc h1 => by
    refine hret (pc, 0, 0) _ (471, 0) _ M1 rfl h1 (Nat.ble_eq_true_of_le (Nat.zero_le _)) (Nat.ble_eq_true_of_le (Nat.zero_le _)) ⟨s', hs, e3, p, hp4, e2, what, hw, e1, congrArg some ?_, q4, fun t ht => (wa_mlt ht).trans ((q5 t ht).trans ?_)⟩
    · exact (Int.add_zero _).trans (wa_mz (NL := 391) (by omega))
    · unfold da_nu
      rw [un t ht]
  rcases (by omega : what = 0 ∨ what = 1) with rfl | rfl
  · exact fin 69 da_is.2.2.2.2.1
  · exact fin 124 da_is.2.2.2.2.2.1
noncomputable def da_gL : List ai_V := [wa_r 16, wa_i 392, wa_i 393, wa_i 394, wa_i 395]
noncomputable def da_hL : List ai_V := [wa_r 16, wa_i 392, wa_i 393, wa_i 394, wa_i 395, wa_r 335, wa_u]
noncomputable def da_hS : List ai_V := [wa_i 395, wa_i 394, wa_i 393, wa_i 392, wa_r 16, .inl (0, 0), wa_r 335]
theorem da_h_c : pt_row waY 262 [9] true (0, 0, 0) da_hL [] [] [] [] [] [((9, 0, 0), (da_hL, da_hS), [], [])] = true ∧ pt_row waY 262 [22] true (12, 1, 6) da_hL (wa_i 471 :: wa_hT) [] [] [] [] [((22, 1, 6), (da_hL, [.inl (0, 0)]), [(390, wa_s 471)], [])] = true := ⟨by decide +kernel, by decide +kernel⟩
theorem da_h_k : (cy_vk 262 9 139 waY.2.1 da_hS da_gL wa_hT && pt_cck waY 262 139 (9, 0, 0) 1 471 da_hL wa_hT da_gL da_gL) = true := by decide +kernel
theorem da_self {r : Nat → Int} (h0 : r 0 = 0) : pt_up r (pt_wc da_gL da_gL) = r := wa_up_self h0 (fun q hq => by
  have hq : q ∈ [(392, pt_xr (392, 0)), (393, pt_xr (393, 0)), (394, pt_xr (394, 0)), (395, pt_xr (395, 0))] := hq
  simp only [List.mem_cons, List.not_mem_nil, or_false] at hq
  rcases hq with rfl | rfl | rfl | rfl <;> rfl)
noncomputable def da_hQ (r : Nat → Int) (M : Nat → Nat → Int) (r2 : Nat → Int) (M2 : Nat → Nat → Int) (o : Option Int) : Prop := o = some 0 ∧ ∃ s : Nat, s < 12 ∧ r 394 = (s : Int) ∧ ∃ p : Nat, p < 4 ∧ r 393 = (p : Int) ∧ ∃ what : Nat, what < 2 ∧ r 392 = (what : Int) ∧ r2 390 = da_v r M what s ∧ M2 = M ∧ ∀ t, t < 391 → t ≠ 390 → r2 t = if da_v r M what s = 0 then da_nu r (da_T what p) 4 (fun q => M (70 + s) ((r 395).toNat + q)) t else r t
theorem da_help {n : Nat} (hn : 6 ≤ n) : pt_Met (n + 1) 262 waY (da_gL ++ [wa_r 335]) (fun r _ => da_dP r) da_hQ 1 := by
  obtain ⟨n, rfl⟩ : ∃ m, n = m + 1 := ⟨n - 1, by omega⟩
  refine pt_intro (L0 := da_hL) da_pl.2.2.1 (by omega) wasys (by
    rw [da_ml.2.2.1]
    rfl) (fun P r M h hp => ?_)
  obtain ⟨hseg, henv, -, -, -, -, -, -, hcall, -, hret, -, -, -⟩ := h
  refine henv _ _ _ _ _ (fun hE _ => ?_)
  have h0 : r 0 = 0 := hE.1
  obtain ⟨c1, c2⟩ := da_h_c
  refine hseg _ _ _ _ _ _ _ _ _ _ _ _ c1 ⟨pt_m0, pt_m0, pt_m0⟩ ⟨fun _ => ?_, trivial⟩
  show P (9, 0, 0) da_hL da_hS r M
  have ck := da_h_k
  rw [Bool.and_eq_true] at ck
  refine hcall (9, 0, 0) _ _ _ _ _ r M 139 1 471 _ _ da_pl.2.1 ck.1 ck.2 (da_day (by omega)) (by
    rw [da_self h0]
    exact hp) (fun r1 M1 o hq => ?_)
  rw [da_self h0] at hq
  obtain ⟨rc, rs⟩ := wa_rm (n := n + 1) da_bu.2.1
  rw [rc, rs]
  obtain ⟨s', q1, q2, p', q3, q4, what, q5, q6, q7, q8, q9⟩ := hq
  subst q7
  obtain ⟨w, hw⟩ : ∃ w, w = da_v r M what s' := ⟨_, rfl⟩
  rw [← hw] at q9 ⊢
  obtain ⟨s1, hs1⟩ : ∃ s1, s1 = pt_mrg 391 r r1 471 (some w) := ⟨_, rfl⟩
  show P (12, 1, 6) da_hL (wa_i 471 :: wa_hT) (pt_mrg 391 r r1 471 (some w)) M1
  have ez : s1 471 = w := by rw [hs1]; exact wa_mz (by omega)
  have m1 : ∀ t, t < 391 → s1 t = r1 t := fun t ht => by rw [hs1]; exact wa_mlt ht
  rw [← hs1]
  refine henv _ _ _ _ _ (fun hE1 _ => ?_)
  refine hseg _ _ _ _ _ _ _ _ _ _ _ _ c2 ⟨pt_m0, pt_m0, pt_m0⟩ ⟨fun _ => ?_, trivial⟩
  refine hret (22, 1, 6) _ (0, 0) _ M1 rfl da_is.2.2.2.2.2.2.1 (by decide +kernel) (by decide +kernel) ⟨congrArg some ?_, s', q1, q2, p', q3, q4, what, q5, q6, ?_, q8, fun t ht hn => ?_⟩
  · show s1 0 + 0 = 0
    rw [hE1.1, Int.add_zero]
  · rw [← hw]
    show s1 471 = w
    exact ez
  · rw [← hw]
    refine Eq.trans ?_ ((m1 t ht).trans (q9 t ht))
    exact if_neg hn
