/-! day: the reference's -/
noncomputable def db_L0 (what p : Nat) : List ai_V := match what with
  | 0 => [wa_r 264, wa_k 0, wa_i 392, wa_i 393, wa_i 394, wa_u, wa_u, wa_u]
  | _ => [wa_r 264, wa_k 1, wa_k p, wa_i 393, wa_i 394, wa_u, wa_u, wa_u]
noncomputable def db_cp (what p : Nat) : List (Nat × Int × Int) := match what with
  | 0 => [(392, (0, 3)), (393, (0, 11))]
  | _ => [(73, (.ofNat (p + 1), 4)), (137 + p, (3, 3)), (393, (0, 11))]
noncomputable def db_le (what : Nat) : List (ai_X × ai_X) := match what with
  | 0 => [((392, 1), (71, 0)), ((393, 1), (74, 0))]
  | _ => [((393, 1), (74, 0))]
noncomputable def db_a (what p : Nat) : Bool := pt_row wbY 183 [66] true (0, 0, 0) (db_L0 what p) [] [] (db_cp what p) (db_le what) [] [((66, 0, 0), (db_L0 what p, []), wb_W, [])]
/-- the sheet told -/
noncomputable def db_L (what s : Nat) (x : ai_V) : List ai_V := [wa_r 264, wa_k what, wa_i 392, wa_k s, wa_i 394, wa_u, x, wa_u]
noncomputable def db_Lp (what p s : Nat) (x : ai_V) : List ai_V := [wa_r 264, wa_k what, wa_k p, wa_k s, wa_i 394, wa_u, x, wa_u]
noncomputable def db_p (what s stop k : Nat) (cp : List (Nat × Int × Int)) (le : List (ai_X × ai_X)) : Bool := pt_row wbY 183 [stop] true (66, 0, 0) (db_L what s wa_u) [] [] cp le [] [((stop, 0, 0), (db_L what s wa_u, [wa_k k]), [], [])]
noncomputable def db_La (what s a : Nat) (x : ai_V) : List ai_V := [wa_r 264, wa_k what, wa_i 392, wa_k s, wa_k a, wa_u, x, wa_u]
noncomputable def db_in (what s : Nat) : Bool := (db_p what s 76 1 [(213 + s, (-1, -1))] [] && (db_p what s 89 3 [(213 + s, (0, 12)), (394, (-2147483648, -1))] [] && db_p what s 89 3 [(213 + s, (0, 12)), (394, (13, 2147483647))] [])) && ((List.range 13).all (fun a => pt_row wbY 183 [89] true (66, 0, 0) (db_La what s a wa_u) [] [] [(213 + s, (0, .ofNat (a + 3)))] [] [] [((89, 0, 0), (db_La what s a wa_u, [wa_k 3]), [], [])]) && (List.range 9).all (fun a => pt_row wbY 183 [113] true (66, 0, 0) (db_La what s a wa_u) [] [] [(213 + s, (.ofNat (a + 4), 12))] [] [] [((113, 0, 0), (db_La what s a (wa_k 0), [wa_k (12 * s + a), wa_r 283]), [], [])]))
noncomputable def db_nx (what s q : Nat) : Nat × pt_E := match Nat.beq q 3 with
  | true => (163, ((163, 0, 0), (db_L what s (wa_k 0), [.inl (394, .ofNat (12 * s)), wa_r 283]), [], []))
  | false => (113, ((113, 0, 0), (db_L what s (wa_k (q + 1)), [.inl (394, .ofNat (12 * s + (q + 1))), wa_r 283]), [], []))
noncomputable def db_q (what s q : Nat) : Bool := pt_row wbY 183 [(db_nx what s q).1] true (114, 0, 0) (db_L what s (wa_k q)) [wa_i 471] [] [(471, (0, .ofNat (da_mo what))), (394, (0, 8))] [] [] [(db_nx what s q).2] && (pt_row wbY 183 [133] true (114, 0, 0) (db_L what s (wa_k q)) [wa_i 471] [] [(471, (-2147483648, -1))] [] [] [((133, 0, 0), (db_L what s (wa_k q), [wa_k 4]), [], [])] && (pt_row wbY 183 [133] true (114, 0, 0) (db_L what s (wa_k q)) [wa_i 471] [] [(471, (.ofNat (da_mo what + 1), 2147483647))] [] [] [((133, 0, 0), (db_L what s (wa_k q), [wa_k 4]), [], [])] && pt_lck wbY 183 113 1 283 144 0 471 (db_L what s (wa_k q)) []))
noncomputable def db_T (what : Nat) : Nat := match what with
  | 0 => 279
  | _ => 280
noncomputable def db_st (what : Nat) : Nat := match what with
  | 0 => 182
  | _ => 198
noncomputable def db_ny (what p s q : Nat) : Nat × pt_E := match Nat.beq q 3 with
  | true => (206, ((206, 0, 0), (db_Lp what p s (wa_k 4), [wa_k 0]), [], []))
  | false => (163, ((163, 0, 0), (db_Lp what p s (wa_k (q + 1)), [.inl (394, .ofNat (12 * s + (q + 1))), wa_r 283]), [], []))
noncomputable def db_z (what p s q : Nat) : Bool := (pt_row wbY 183 [db_st what] true (164, 0, 0) (db_Lp what p s (wa_k q)) [wa_i 471] [] [] [] [] [((db_st what, 0, 0), (db_Lp what p s (wa_k q), [wa_i 471, wa_k (4 * p + q), wa_r (db_T what)]), [], [])] && pt_row wbY 183 [(db_ny what p s q).1] true (db_st what + 1, 0, 0) (db_Lp what p s (wa_k q)) [] [] [(394, (0, 8))] [] [] [(db_ny what p s q).2]) && (pt_lck wbY 183 163 1 283 144 0 471 (db_Lp what p s (wa_k q)) [] && pt_sck wbY 183 (db_st what) 2 (db_T what) 16 0)
theorem db_a_c : (List.range 2).all (fun what => (List.range 4).all (db_a what)) = true := by decide +kernel
theorem db_q_c : (List.range 2).all (fun what => (List.range 12).all (fun s => db_in what s && (List.range 4).all (db_q what s))) = true := by decide +kernel
theorem db_z_c : (List.range 2).all (fun what => (List.range 4).all (fun p => (List.range 12).all (fun s => (List.range 4).all (db_z what p s)))) = true := by decide +kernel
noncomputable def db_dP (r : Nat → Int) : Prop := (∃ s : Nat, s < 12 ∧ r 393 = (s : Int) ∧ r 393 + 1 ≤ r 74) ∧ ∃ p : Nat, p < 4 ∧ r 392 = (p : Int) ∧ ((r 391 = 0 ∧ r 392 + 1 ≤ r 71) ∨ (r 391 = 1 ∧ r 392 + 1 ≤ r 73 ∧ r (137 + p) = 3))
noncomputable def db_v (r : Nat → Int) (M : Nat → Nat → Int) (what s : Nat) : Int := dv_r (r (213 + s)) (r 394) ((da_mo what : Nat) : Int) (fun q => M 283 (12 * s + ((r 394).toNat + q)))
noncomputable def db_dQ (r : Nat → Int) (M : Nat → Nat → Int) (r2 : Nat → Int) (M2 : Nat → Nat → Int) (o : Option Int) : Prop := ∃ s : Nat, s < 12 ∧ r 393 = (s : Int) ∧ ∃ p : Nat, p < 4 ∧ r 392 = (p : Int) ∧ ∃ what : Nat, what < 2 ∧ r 391 = (what : Int) ∧ o = some (db_v r M what s) ∧ (M2 = if db_v r M what s = 0 then dm M (db_T what) (4 * p) 4 (fun q => M 283 (12 * s + ((r 394).toNat + q))) else M) ∧ r2 70 = 0 ∧ ∀ t, t < 390 → t ≠ 70 → r2 t = r t
set_option maxHeartbeats 2000000 in
theorem db_day {n : Nat} (hn : 4 ≤ n) : pt_Met (n + 1) 183 wbY [wa_r 264, wa_i 391, wa_i 392, wa_i 393, wa_i 394] (fun r _ => db_dP r) db_dQ 1 := by
  refine pt_intro (L0 := [wa_r 264, wa_i 391, wa_i 392, wa_i 393, wa_i 394, wa_u, wa_u, wa_u]) da_pl.2.2.2 hn wbsys (by
    rw [da_ml.2.2.2]
    rfl) (fun P r M h hp => ?_)
  obtain ⟨hseg, henv, hrel, -, hld, -, hst, -, -, -, hret, -, -, -⟩ := h
  refine henv _ _ _ _ _ (fun hE hM => ?_)
  have h0 : r 0 = 0 := hE.1
  obtain ⟨⟨s, hs, e3, m3⟩, p, hp4, e2, hk⟩ := hp
  obtain ⟨what, hwt, e1⟩ : ∃ what : Nat, what < 2 ∧ r 391 = (what : Int) := by
    rcases hk with k | k
    · exact ⟨0, by omega, k.1⟩
    · exact ⟨1, by omega, k.1⟩
  obtain ⟨bm, bs, b32⟩ := wb_bd hE
  obtain ⟨bz, -⟩ := bs s hs
  have i4 : -2147483648 ≤ r 394 ∧ r 394 ≤ 2147483647 := b32 4 (by omega)
  have bPL : r 71 ≤ 4 ∧ r 73 ≤ 4 := by
    have g : (71, ((0 : Int), (4 : Int))) ∈ wbE.2.1 ∧ (73, ((0 : Int), (4 : Int))) ∈ wbE.2.1 := by decide +kernel
    exact ⟨(hE.2.2.2.1 _ g.1).2.2, (hE.2.2.2.1 _ g.2).2.2⟩
  obtain ⟨w, hw⟩ : ∃ w : Nat → Int, w = fun q => M 283 (12 * s + ((r 394).toNat + q)) := ⟨_, rfl⟩
  have w32 : ∀ q, r 394 ≤ 8 → q < 4 → -2147483648 ≤ w q ∧ w q ≤ 2147483647 := fun q h1 h2 => by
    have g := hM (283, 144, 0) (by
      have z : wbY.2.2.1.any (fun x => decide (x = (283, 144, 0))) = true := by decide +kernel
      obtain ⟨x, hx, e⟩ := List.any_eq_true.mp z
      rw [← of_decide_eq_true e]
      exact hx) (12 * s + ((r 394).toNat + q)) (by show 12 * s + ((r 394).toNat + q) < 144; omega)
    rw [hw]
    exact g.1 (by show (0 : Nat) ≠ 1; decide)
  have ra := List.all_eq_true.mp (List.all_eq_true.mp db_a_c what (List.mem_range.mpr hwt)) p (List.mem_range.mpr hp4)
  have rq := List.all_eq_true.mp (List.all_eq_true.mp db_q_c what (List.mem_range.mpr hwt)) s (List.mem_range.mpr hs)
  have rz : ∀ q : Nat, q < 4 → db_z what p s q = true := fun q hq => List.all_eq_true.mp (List.all_eq_true.mp (List.all_eq_true.mp (List.all_eq_true.mp db_z_c what (List.mem_range.mpr hwt)) p (List.mem_range.mpr hp4)) s (List.mem_range.mpr hs)) q (List.mem_range.mpr hq)
  rw [Bool.and_eq_true] at rq
  obtain ⟨rin, rq⟩ := rq
  have rq : ∀ q : Nat, q < 4 → db_q what s q = true := fun q hq => List.all_eq_true.mp rq q (List.mem_range.mpr hq)
  unfold db_in at rin
  simp only [Bool.and_eq_true] at rin
  obtain ⟨⟨c1, c2, c2'⟩, c3, c4⟩ := rin
  -- to the sheet
  obtain ⟨r', hr'⟩ : ∃ r', r' = pt_up r wb_W := ⟨_, rfl⟩
  have r'c : r' 70 = 0 := by
    rw [hr']
    rfl
  have r'n : ∀ t, t ≠ 70 → r' t = r t := fun t ht => by
    rw [hr']
    exact if_neg ht
  have start : P (66, 0, 0) (db_L what s wa_u) [] r' M → P (0, 0, 0) [wa_r 264, wa_i 391, wa_i 392, wa_i 393, wa_i 394, wa_u, wa_u, wa_u] [] r M := fun nxt => by
    have l3 : ∀ rr : Nat → Int, rr 0 = 0 → rr 393 = (s : Int) → ai_vx rr (393, 0) = ai_vx rr (0, .ofNat s) := fun rr a b => by
      show rr 393 + 0 = rr 0 + (s : Int)
      rw [a, b]
      omega
    have r'0 : r' 0 = 0 := (r'n 0 (by omega)).trans h0
    have r'3 : r' 393 = (s : Int) := (r'n _ (by omega)).trans e3
    rcases (by omega : what = 0 ∨ what = 1) with rfl | rfl
    · have k : r 392 + 1 ≤ r 71 := by
        rcases hk with k | k
        · exact k.2
        · have := k.1
          omega
      refine hrel (0, 0, 0) _ (db_L0 0 p) _ [] r M ⟨rfl, ⟨by show 0 < 490; omega, by show r 391 + 0 = r 0 + 0; rw [h0, e1]; rfl⟩, ⟨by show 392 < 490; omega, rfl⟩, ⟨by show 393 < 490; omega, rfl⟩, ⟨by show 394 < 490; omega, rfl⟩, trivial, trivial, trivial, trivial⟩ trivial ?_
      refine hseg _ _ _ _ _ _ _ _ _ _ _ _ ra ⟨pt_m0, pt_m2 ⟨by show (0 : Int) ≤ r 392; omega, by show r 392 ≤ (3 : Int); omega⟩ ⟨by show (0 : Int) ≤ r 393; omega, by show r 393 ≤ (11 : Int); omega⟩, pt_m2 (by show r 392 + 1 ≤ r 71 + 0; omega) (by show r 393 + 1 ≤ r 74 + 0; omega)⟩ ⟨fun _ => ?_, trivial⟩
      show P (66, 0, 0) (db_L0 0 p) [] (pt_up r wb_W) M
      rw [← hr']
      exact hrel (66, 0, 0) _ (db_L 0 s wa_u) _ [] r' M ⟨rfl, ⟨by show 0 < 490; omega, rfl⟩, ⟨by show 392 < 490; omega, rfl⟩, ⟨by show 0 < 490; omega, l3 r' r'0 r'3⟩, ⟨by show 394 < 490; omega, rfl⟩, trivial, trivial, trivial, trivial⟩ trivial nxt
    · have k : r 392 + 1 ≤ r 73 ∧ r (137 + p) = 3 := by
        rcases hk with k | k
        · have := k.1
          omega
        · exact k.2
      refine hrel (0, 0, 0) _ (db_L0 1 p) _ [] r M ⟨rfl, ⟨by show 0 < 490; omega, by show r 391 + 0 = r 0 + 1; rw [h0, e1]; rfl⟩, ⟨by show 0 < 490; omega, by show r 392 + 0 = r 0 + (p : Int); rw [h0, e2]; omega⟩, ⟨by show 393 < 490; omega, rfl⟩, ⟨by show 394 < 490; omega, rfl⟩, trivial, trivial, trivial, trivial⟩ trivial ?_
      refine hseg _ _ _ _ _ _ _ _ _ _ _ _ ra ⟨pt_m0, pt_m3 ⟨by show ((p + 1 : Nat) : Int) ≤ r 73; omega, bPL.2⟩ ⟨by show (3 : Int) ≤ r (137 + p); omega, by show r (137 + p) ≤ (3 : Int); omega⟩ ⟨by show (0 : Int) ≤ r 393; omega, by show r 393 ≤ (11 : Int); omega⟩, pt_m1 (by show r 393 + 1 ≤ r 74 + 0; omega)⟩ ⟨fun _ => ?_, trivial⟩
      show P (66, 0, 0) (db_L0 1 p) [] (pt_up r wb_W) M
      rw [← hr']
      exact hrel (66, 0, 0) _ (db_L 1 s wa_u) _ [] r' M ⟨rfl, ⟨by show 0 < 490; omega, rfl⟩, ⟨by show 392 < 490; omega, by show r' 0 + (p : Int) = r' 392 + 0; rw [r'0, r'n 392 (by omega), e2]; omega⟩, ⟨by show 0 < 490; omega, l3 r' r'0 r'3⟩, ⟨by show 394 < 490; omega, rfl⟩, trivial, trivial, trivial, trivial⟩ trivial nxt
  refine start ?_
  have r'0 : r' 0 = 0 := (r'n 0 (by omega)).trans h0
  have out : ∀ (r2 : Nat → Int) (L : List ai_V) (pc k : Nat), (∀ t, t < 390 → r2 t = r' t) → pt_is 5 183 pc = true → k ≠ 0 → dv_r (r (213 + s)) (r 394) ((da_mo what : Nat) : Int) w = (k : Int) → P (pc, 0, 0) L [wa_k k] r2 M := fun r2 L pc k hr2 h1 h2 h3 => hret (pc, 0, 0) _ (0, .ofNat k) _ M rfl h1 (Nat.ble_eq_true_of_le (Nat.zero_le _)) (Nat.ble_eq_true_of_le (Nat.zero_le _)) ⟨s, hs, e3, p, hp4, e2, what, hwt, e1, congrArg some (by unfold db_v; rw [← hw]; show r2 0 + (k : Int) = _; rw [hr2 0 (by omega), r'0, h3, Int.zero_add]), by unfold db_v; rw [← hw, if_neg (by rw [h3]; omega)], (hr2 _ (by omega)).trans r'c, fun t ht hn => (hr2 t ht).trans (r'n t hn)⟩
  have sz' : r' (213 + s) = r (213 + s) := r'n _ (by omega)
  have b4' : r' 394 = r 394 := r'n _ (by omega)
  by_cases a : r (213 + s) = -1
  · exact hseg _ _ _ _ _ _ _ _ _ _ _ _ c1 ⟨pt_m0, pt_m1 ⟨by show (-1 : Int) ≤ r' (213 + s); omega, by show r' (213 + s) ≤ (-1 : Int); omega⟩, pt_m0⟩ ⟨fun _ => out r' _ 76 1 (fun _ _ => rfl) da_is.2.2.2.2.2.2.2.1 (by omega) (by unfold dv_r; rw [if_pos a]; rfl), trivial⟩
  have a' : 0 ≤ r (213 + s) := by omega
  have zz : (0 : Int) ≤ r' (213 + s) ∧ r' (213 + s) ≤ 12 := ⟨by omega, by omega⟩
  by_cases b : r 394 ≤ -1
  · exact hseg _ _ _ _ _ _ _ _ _ _ _ _ c2 ⟨pt_m0, pt_m2 zz ⟨by show (-2147483648 : Int) ≤ r' 394; omega, by show r' 394 ≤ (-1 : Int); omega⟩, pt_m0⟩ ⟨fun _ => out r' _ 89 3 (fun _ _ => rfl) da_is.2.2.2.2.2.2.2.2.1 (by omega) (by unfold dv_r; rw [if_neg a, if_pos (Or.inl (by omega))]; rfl), trivial⟩
  have b' : 0 ≤ r 394 := by omega
  by_cases c13 : 13 ≤ r 394
  · exact hseg _ _ _ _ _ _ _ _ _ _ _ _ c2' ⟨pt_m0, pt_m2 zz ⟨by show (13 : Int) ≤ r' 394; omega, by show r' 394 ≤ (2147483647 : Int); omega⟩, pt_m0⟩ ⟨fun _ => out r' _ 89 3 (fun _ _ => rfl) da_is.2.2.2.2.2.2.2.2.1 (by omega) (by unfold dv_r; rw [if_neg a, if_pos (Or.inr (by omega))]; rfl), trivial⟩
  obtain ⟨ai, hai⟩ : ∃ ai : Nat, r 394 = (ai : Int) := ⟨(r 394).toNat, by omega⟩
  have toA : P (66, 0, 0) (db_La what s ai wa_u) [] r' M → P (66, 0, 0) (db_L what s wa_u) [] r' M := fun nxt => hrel (66, 0, 0) _ (db_La what s ai wa_u) _ [] r' M ⟨rfl, ⟨by show 0 < 490; omega, rfl⟩, ⟨by show 392 < 490; omega, rfl⟩, ⟨by show 0 < 490; omega, rfl⟩, ⟨by show 0 < 490; omega, by show r' 394 + 0 = r' 0 + (ai : Int); rw [b4', r'0, hai]; omega⟩, trivial, trivial, trivial, trivial⟩ trivial nxt
  by_cases c : r (213 + s) ≤ r 394 + 3
  · refine toA ?_
    exact hseg _ _ _ _ _ _ _ _ _ _ _ _ (List.all_eq_true.mp c3 ai (List.mem_range.mpr (by omega))) ⟨pt_m0, pt_m1 ⟨by show (0 : Int) ≤ r' (213 + s); omega, by show r' (213 + s) ≤ ((ai + 3 : Nat) : Int); omega⟩, pt_m0⟩ ⟨fun _ => out r' _ 89 3 (fun _ _ => rfl) da_is.2.2.2.2.2.2.2.2.1 (by omega) (by unfold dv_r; rw [if_neg a, if_pos (Or.inr (by omega))]; rfl), trivial⟩
  have c' : r 394 + 4 ≤ r (213 + s) := by omega
  have t8 : (0 : Int) ≤ r 394 ∧ r 394 ≤ 8 := ⟨b', by omega⟩
  have nbq : ∀ q : Nat, q < 3 → Nat.beq q 3 = false := fun q hq => by
    cases e : Nat.beq q 3 with
    | false => rfl
    | true =>
      have := Nat.eq_of_beq_eq_true e
      omega
  have idx : ∀ (rr : Nat → Int) (q : Nat), rr 394 = r 394 → ai_vx rr (394, .ofNat (12 * s + q)) = ((12 * s + ((r 394).toNat + q) : Nat) : Int) := fun rr q h => by
    show rr 394 + ((12 * s + q : Nat) : Int) = _
    rw [h]
    omega
  have dT : db_T what ≠ 283 := by
    rcases (by omega : what = 0 ∨ what = 1) with rfl | rfl <;> decide
  -- the second loop
  have loop2 : (∀ q : Nat, q < 4 → 0 ≤ w q ∧ w q ≤ ((da_mo what : Nat) : Int)) → ∀ (d q : Nat) (r1 : Nat → Int), q + d = 3 → (∀ t, t ≠ 471 → r1 t = r' t) → P (163, 0, 0) (db_Lp what p s (wa_k q)) [.inl (394, .ofNat (12 * s + q)), wa_r 283] r1 (dm M (db_T what) (4 * p) q w) := fun good => by
    intro d
    induction d with
    | zero =>
      intro q r1 hqd hr1
      have hq : q = 3 := by omega
      subst hq
      have g := rz 3 (by omega)
      unfold db_z at g
      simp only [Bool.and_eq_true] at g
      obtain ⟨⟨v1, v2⟩, k1, k2⟩ := g
      refine hld (163, 0, 0) _ _ r1 _ 283 144 471 (12 * s + ((r 394).toNat + 3)) (394, .ofNat (12 * s + 3)) k1 (by omega) (idx r1 3 ((hr1 _ (by omega)).trans b4')) ?_
      rw [dm_o (fun q => dT q.symm)]
      obtain ⟨r2, hr2⟩ : ∃ r2, r2 = pt_set r1 471 (M 283 (12 * s + ((r 394).toNat + 3))) := ⟨_, rfl⟩
      rw [← hr2]
      have r2s : r2 471 = w 3 := by
        rw [hr2, hw]
        exact if_pos rfl
      have r2n : ∀ t, t ≠ 471 → r2 t = r' t := fun t ht => by
        rw [hr2]
        exact (if_neg ht).trans (hr1 t ht)
      refine hseg _ _ _ _ _ _ _ _ _ _ _ _ v1 ⟨pt_m0, pt_m0, pt_m0⟩ ⟨fun _ => ?_, trivial⟩
      refine hst (db_st what, 0, 0) _ _ r2 _ (db_T what) 16 (4 * p + 3) (0, .ofNat (4 * p + 3)) (471, 0) k2 (by omega) (by show r2 0 + ((4 * p + 3 : Nat) : Int) = _; rw [r2n 0 (by omega), r'0, Int.zero_add]) ?_
      have ev : ai_vx r2 (471, 0) = w 3 := (Int.add_zero _).trans r2s
      rw [ev, dm_s]
      refine hseg _ _ _ _ _ _ _ _ _ _ _ _ v2 ⟨pt_m0, pt_m1 (by
        show (0 : Int) ≤ r2 394 ∧ r2 394 ≤ 8
        rw [r2n _ (by omega), b4']
        exact t8), pt_m0⟩ ⟨fun _ => ?_, trivial⟩
      have dv := dv_good a b' c' good
      refine hret (206, 0, 0) _ (0, .ofNat 0) _ _ rfl da_is.2.2.2.2.2.2.2.2.2.2 (Nat.ble_eq_true_of_le (Nat.zero_le _)) (Nat.ble_eq_true_of_le (Nat.zero_le _)) ⟨s, hs, e3, p, hp4, e2, what, hwt, e1, congrArg some ?_, ?_, (r2n _ (by omega)).trans r'c, fun t ht hn => (r2n t (by omega)).trans (r'n t hn)⟩
      · unfold db_v
        rw [← hw, dv]
        show r2 0 + 0 = 0
        rw [r2n 0 (by omega), r'0]
        rfl
      · unfold db_v
        rw [← hw, if_pos dv]
    | succ d ih =>
      intro q r1 hqd hr1
      have hq4 : q < 4 := by omega
      have g := rz q hq4
      unfold db_z at g
      simp only [Bool.and_eq_true] at g
      obtain ⟨⟨v1, v2⟩, k1, k2⟩ := g
      refine hld (163, 0, 0) _ _ r1 _ 283 144 471 (12 * s + ((r 394).toNat + q)) (394, .ofNat (12 * s + q)) k1 (by omega) (idx r1 q ((hr1 _ (by omega)).trans b4')) ?_
      rw [dm_o (fun q => dT q.symm)]
      obtain ⟨r2, hr2⟩ : ∃ r2, r2 = pt_set r1 471 (M 283 (12 * s + ((r 394).toNat + q))) := ⟨_, rfl⟩
      rw [← hr2]
      have r2s : r2 471 = w q := by
        rw [hr2, hw]
        exact if_pos rfl
      have r2n : ∀ t, t ≠ 471 → r2 t = r' t := fun t ht => by
        rw [hr2]
        exact (if_neg ht).trans (hr1 t ht)
      refine hseg _ _ _ _ _ _ _ _ _ _ _ _ v1 ⟨pt_m0, pt_m0, pt_m0⟩ ⟨fun _ => ?_, trivial⟩
      refine hst (db_st what, 0, 0) _ _ r2 _ (db_T what) 16 (4 * p + q) (0, .ofNat (4 * p + q)) (471, 0) k2 (by omega) (by show r2 0 + ((4 * p + q : Nat) : Int) = _; rw [r2n 0 (by omega), r'0, Int.zero_add]) ?_
      have ev : ai_vx r2 (471, 0) = w q := (Int.add_zero _).trans r2s
      rw [ev, dm_s]
      have ny : db_ny what p s q = (163, ((163, 0, 0), (db_Lp what p s (wa_k (q + 1)), [.inl (394, .ofNat (12 * s + (q + 1))), wa_r 283]), [], [])) := by
        unfold db_ny
        rw [nbq q (by omega)]
      rw [ny] at v2
      refine hseg _ _ _ _ _ _ _ _ _ _ _ _ v2 ⟨pt_m0, pt_m1 (by
        show (0 : Int) ≤ r2 394 ∧ r2 394 ≤ 8
        rw [r2n _ (by omega), b4']
        exact t8), pt_m0⟩ ⟨fun _ => ?_, trivial⟩
      exact ih (q + 1) r2 (by omega) r2n
  -- the first loop
  have loop1 : ∀ (d q : Nat) (r1 : Nat → Int), q + d = 3 → (∀ t, t ≠ 471 → r1 t = r' t) → (∀ z : Nat, z < q → 0 ≤ w z ∧ w z ≤ ((da_mo what : Nat) : Int)) → P (113, 0, 0) (db_L what s (wa_k q)) [.inl (394, .ofNat (12 * s + q)), wa_r 283] r1 M := by
    have step : ∀ (q : Nat) (r1 : Nat → Int), q < 4 → (∀ t, t ≠ 471 → r1 t = r' t) → (∀ r2 : Nat → Int, (∀ t, t ≠ 471 → r2 t = r' t) → (0 ≤ w q ∧ w q ≤ ((da_mo what : Nat) : Int)) → P (db_nx what s q).2.1 (db_nx what s q).2.2.1.1 (db_nx what s q).2.2.1.2 (pt_up r2 (db_nx what s q).2.2.2.1) M) → P (113, 0, 0) (db_L what s (wa_k q)) [.inl (394, .ofNat (12 * s + q)), wa_r 283] r1 M := fun q r1 hq4 hr1 nxt => by
      have g := rq q hq4
      unfold db_q at g
      simp only [Bool.and_eq_true] at g
      obtain ⟨v1, v2, v3, k1⟩ := g
      refine hld (113, 0, 0) _ _ r1 _ 283 144 471 (12 * s + ((r 394).toNat + q)) (394, .ofNat (12 * s + q)) k1 (by omega) (idx r1 q ((hr1 _ (by omega)).trans b4')) ?_
      obtain ⟨r2, hr2⟩ : ∃ r2, r2 = pt_set r1 471 (M 283 (12 * s + ((r 394).toNat + q))) := ⟨_, rfl⟩
      rw [← hr2]
      have r2s : r2 471 = w q := by
        rw [hr2, hw]
        exact if_pos rfl
      have r2n : ∀ t, t ≠ 471 → r2 t = r' t := fun t ht => by
        rw [hr2]
        exact (if_neg ht).trans (hr1 t ht)
      have w3 := w32 q t8.2 hq4
      have r2l : ∀ t, t < 390 → r2 t = r' t := fun t ht => r2n t (by omega)
      by_cases z1 : w q ≤ -1
      · exact hseg _ _ _ _ _ _ _ _ _ _ _ _ v2 ⟨pt_m0, pt_m1 ⟨by show (-2147483648 : Int) ≤ r2 471; omega, by show r2 471 ≤ (-1 : Int); omega⟩, pt_m0⟩ ⟨fun _ => out r2 _ 133 4 r2l da_is.2.2.2.2.2.2.2.2.2.1 (by omega) (dv_bad a b' c' hq4 (by omega)), trivial⟩
      by_cases z2 : ((da_mo what : Nat) : Int) + 1 ≤ w q
      · exact hseg _ _ _ _ _ _ _ _ _ _ _ _ v3 ⟨pt_m0, pt_m1 ⟨by show (((da_mo what + 1 : Nat)) : Int) ≤ r2 471; omega, by show r2 471 ≤ (2147483647 : Int); omega⟩, pt_m0⟩ ⟨fun _ => out r2 _ 133 4 r2l da_is.2.2.2.2.2.2.2.2.2.1 (by omega) (dv_bad a b' c' hq4 (by omega)), trivial⟩
      refine hseg _ _ _ _ _ _ _ _ _ _ _ _ v1 ⟨pt_m0, pt_m2 ⟨by show (0 : Int) ≤ r2 471; omega, by show r2 471 ≤ ((da_mo what : Nat) : Int); omega⟩ (by show (0 : Int) ≤ r2 394 ∧ r2 394 ≤ 8; rw [r2n _ (by omega), b4']; exact t8), pt_m0⟩ ⟨fun _ => nxt r2 r2n ⟨by omega, by omega⟩, trivial⟩
    intro d
    induction d with
    | zero =>
      intro q r1 hqd hr1 hz
      have hq : q = 3 := by omega
      subst hq
      refine step 3 r1 (by omega) hr1 (fun r2 r2n hg => ?_)
      have good : ∀ q : Nat, q < 4 → 0 ≤ w q ∧ w q ≤ ((da_mo what : Nat) : Int) := fun q hq => by
        by_cases e : q = 3
        · subst e
          exact hg
        · exact hz q (by omega)
      show P (163, 0, 0) (db_L what s (wa_k 0)) [.inl (394, .ofNat (12 * s)), wa_r 283] r2 M
      have l2 := loop2 good 3 0 r2 (by omega) r2n
      rw [dm_0] at l2
      refine hrel (163, 0, 0) _ (db_Lp what p s (wa_k 0)) _ [.inl (394, .ofNat (12 * s)), wa_r 283] r2 M ⟨rfl, ⟨by show 0 < 490; omega, rfl⟩, ⟨by show 0 < 490; omega, by show r2 392 + 0 = r2 0 + (p : Int); rw [r2n 0 (by omega), r'0, r2n 392 (by omega), r'n 392 (by omega), e2]; omega⟩, ⟨by show 0 < 490; omega, rfl⟩, ⟨by show 394 < 490; omega, rfl⟩, trivial, ⟨by show 0 < 490; omega, rfl⟩, trivial, trivial⟩ ⟨⟨by show 394 < 490; omega, rfl⟩, rfl, trivial⟩ l2
    | succ d ih =>
      intro q r1 hqd hr1 hz
      refine step q r1 (by omega) hr1 (fun r2 r2n hg => ?_)
      have nx : db_nx what s q = (113, ((113, 0, 0), (db_L what s (wa_k (q + 1)), [.inl (394, .ofNat (12 * s + (q + 1))), wa_r 283]), [], [])) := by
        unfold db_nx
        rw [nbq q (by omega)]
      rw [nx]
      exact ih (q + 1) r2 (by omega) r2n (fun z hz2 => by
        by_cases e : z = q
        · subst e
          exact hg
        · exact hz z (by omega))
  refine toA ?_
  refine hseg _ _ _ _ _ _ _ _ _ _ _ _ (List.all_eq_true.mp c4 ai (List.mem_range.mpr (by omega))) ⟨pt_m0, pt_m1 ⟨by show ((ai + 4 : Nat) : Int) ≤ r' (213 + s); omega, by show r' (213 + s) ≤ (12 : Int); omega⟩, pt_m0⟩ ⟨fun _ => ?_, trivial⟩
  show P (113, 0, 0) (db_La what s ai (wa_k 0)) [wa_k (12 * s + ai), wa_r 283] r' M
  refine hrel (113, 0, 0) _ (db_L what s (wa_k 0)) _ [.inl (394, .ofNat (12 * s)), wa_r 283] r' M ⟨rfl, ⟨by show 0 < 490; omega, rfl⟩, ⟨by show 392 < 490; omega, rfl⟩, ⟨by show 0 < 490; omega, rfl⟩, ⟨by show 394 < 490; omega, by show r' 0 + (ai : Int) = r' 394 + 0; rw [b4', r'0, hai]; omega⟩, trivial, ⟨by show 0 < 490; omega, rfl⟩, trivial, trivial⟩ ⟨⟨by show 394 < 490; omega, by show r' 0 + ((12 * s + ai : Nat) : Int) = r' 394 + ((12 * s : Nat) : Int); rw [b4', r'0, hai]; omega⟩, rfl, trivial⟩ ?_
  exact loop1 3 0 r' (by omega) (fun _ _ => rfl) (fun z hz => absurd hz (by omega))
