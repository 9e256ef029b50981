/-! day: the class's readDay -/
/-- the first number of what T holds -/
noncomputable def da_tb (T : Nat) : Nat := match Nat.blt T 45 with
  | true => 169 + 4 * (T - 19)
  | false => 185 + 4 * ((T - 45) / 6)
noncomputable def da_nu (r : Nat → Int) (T q : Nat) (w : Nat → Int) : Nat → Int := fun t => if da_tb T ≤ t ∧ t < da_tb T + q then w (t - da_tb T) else r t
theorem da_tbr {T : Nat} (h : T ∈ ([19, 20, 21, 22] : List Nat) ∨ T ∈ ([45, 51, 57, 63] : List Nat)) : (169 ≤ da_tb T ∧ da_tb T + 4 ≤ 169 + 16) ∨ (185 ≤ da_tb T ∧ da_tb T + 4 ≤ 185 + 16) := by
  have a : ([19, 20, 21, 22, 45, 51, 57, 63] : List Nat).all (fun T => (Nat.ble 169 (da_tb T) && Nat.ble (da_tb T + 4) (169 + 16)) || (Nat.ble 185 (da_tb T) && Nat.ble (da_tb T + 4) (185 + 16))) = true := by decide +kernel
  have g := List.all_eq_true.mp a T (by
    rcases h with h | h <;> simp only [List.mem_cons, List.not_mem_nil, or_false] at h ⊢ <;> omega)
  simp only [Bool.or_eq_true, Bool.and_eq_true] at g
  rcases g with g | g
  · exact Or.inl ⟨Nat.le_of_ble_eq_true g.1, Nat.le_of_ble_eq_true g.2⟩
  · exact Or.inr ⟨Nat.le_of_ble_eq_true g.1, Nat.le_of_ble_eq_true g.2⟩
theorem da_nu0 {r : Nat → Int} {T : Nat} {w : Nat → Int} : da_nu r T 0 w = r := by
  funext t
  exact if_neg (by omega)
theorem da_nun {r : Nat → Int} {T q t : Nat} {w : Nat → Int} (h : ¬ (da_tb T ≤ t ∧ t < da_tb T + 4)) (hq : q ≤ 4) : da_nu r T q w t = r t := if_neg (fun k => h ⟨k.1, by omega⟩)
noncomputable def da_L (s T : Nat) (x : ai_V) : List ai_V := [wa_r 68, wa_k s, wa_i 393, wa_i 394, wa_r T, x]
noncomputable def da_p (s T stop k : Nat) (cp : List (Nat × Int × Int)) (le : List (ai_X × ai_X)) : Bool := pt_row waY 117 [stop] true (0, 0, 0) (da_L s T wa_u) [] [] ((74, (.ofNat (s + 1), 12)) :: cp) le [] [((stop, 0, 0), (da_L s T wa_u, [wa_k k]), [], [])]
noncomputable def da_in (s T : Nat) : Bool := (da_p s T 19 1 [(213 + s, (-1, -1))] [] && (da_p s T 38 3 [(213 + s, (0, 12)), (393, (-2147483648, -1))] [] && da_p s T 38 3 [(213 + s, (0, 12)), (393, (0, 2147483647))] [((213 + s, -3), (393, 0))])) && pt_row waY 117 [58] true (0, 0, 0) (da_L s T wa_u) [] [] [(74, (.ofNat (s + 1), 12)), (213 + s, (4, 12)), (393, (0, 8))] [((393, 4), (213 + s, 0))] [] [((58, 0, 0), (da_L s T (wa_k 0), [.inl (393, .ofNat 0), wa_r (70 + s)]), [], [])]
/-- behind a quarter's number: the next quarter, or the second loop -/
noncomputable def da_nx (s T q : Nat) : Nat × pt_E := match Nat.beq q 3 with
  | true => (98, ((98, 0, 0), (da_L s T (wa_k 0), [.inl (393, .ofNat 0), wa_r (70 + s), wa_k 0, wa_r T]), [], []))
  | false => (58, ((58, 0, 0), (da_L s T (wa_k (q + 1)), [.inl (393, .ofNat (q + 1)), wa_r (70 + s)]), [], []))
noncomputable def da_q (s T q : Nat) : Bool := (pt_row waY 117 [(da_nx s T q).1] true (59, 0, 0) (da_L s T (wa_k q)) [wa_i 471] [] [(471, (0, 9)), (394, (0, 9)), (393, (0, 8))] [((471, 0), (394, 0))] [] [(da_nx s T q).2] && (pt_row waY 117 [68] true (59, 0, 0) (da_L s T (wa_k q)) [wa_i 471] [] [(471, (-2147483648, -1))] [] [] [((68, 0, 0), (da_L s T (wa_k q), [wa_k 4]), [], [])] && pt_row waY 117 [68] true (59, 0, 0) (da_L s T (wa_k q)) [wa_i 471] [] [(471, (0, 2147483647)), (394, (0, 9))] [((394, 1), (471, 0))] [] [((68, 0, 0), (da_L s T (wa_k q), [wa_k 4]), [], [])])) && (pt_lck waY 117 58 1 (70 + s) 12 0 471 (da_L s T (wa_k q)) [] && pt_lck waY 117 98 1 (70 + s) 12 0 471 (da_L s T (wa_k q)) [wa_k q, wa_r T])
noncomputable def da_ny (s T q : Nat) : Nat × pt_E := match Nat.beq q 3 with
  | true => (107, ((107, 0, 0), (da_L s T (wa_k 4), [wa_k 0]), [(da_tb T + q, wa_s 471)], []))
  | false => (98, ((98, 0, 0), (da_L s T (wa_k (q + 1)), [.inl (393, .ofNat (q + 1)), wa_r (70 + s), wa_k (q + 1), wa_r T]), [(da_tb T + q, wa_s 471)], []))
noncomputable def da_z (s T q : Nat) : Bool := pt_row waY 117 [(da_ny s T q).1] true (99, 0, 0) (da_L s T (wa_k q)) [wa_i 471, wa_k q, wa_r T] [] [(393, (0, 8))] [] [T] [(da_ny s T q).2]
noncomputable def da_ok (T : Nat) : Bool := (List.range 12).all (fun s => da_in s T && (List.range 4).all (fun q => da_q s T q && da_z s T q))
theorem da_ok_a : ([19, 20, 21, 22] : List Nat).all da_ok = true := by decide +kernel
theorem da_ok_b : ([45, 51, 57, 63] : List Nat).all da_ok = true := by decide +kernel
theorem da_okT {T : Nat} (h : T ∈ ([19, 20, 21, 22] : List Nat) ∨ T ∈ ([45, 51, 57, 63] : List Nat)) : da_ok T = true := by
  rcases h with h | h
  · exact List.all_eq_true.mp da_ok_a T h
  · exact List.all_eq_true.mp da_ok_b T h
noncomputable def da_rP (r : Nat → Int) : Prop := ∃ s : Nat, s < 12 ∧ r 392 = (s : Int) ∧ r 392 + 1 ≤ r 74 ∧ 0 ≤ r 394 ∧ r 394 ≤ 9
noncomputable def da_rQ (T : Nat) (r : Nat → Int) (M : Nat → Nat → Int) (r2 : Nat → Int) (M2 : Nat → Nat → Int) (o : Option Int) : Prop := ∃ s : Nat, s < 12 ∧ r 392 = (s : Int) ∧ o = some (dv_r (r (213 + s)) (r 393) (r 394) (fun q => M (70 + s) ((r 393).toNat + q))) ∧ M2 = M ∧ ∀ t, t < 391 → r2 t = if dv_r (r (213 + s)) (r 393) (r 394) (fun q => M (70 + s) ((r 393).toNat + q)) = 0 then da_nu r T 4 (fun q => M (70 + s) ((r 393).toNat + q)) t else r t
set_option maxHeartbeats 2000000 in
theorem da_read {n T : Nat} (hn : 4 ≤ n) (hT : T ∈ ([19, 20, 21, 22] : List Nat) ∨ T ∈ ([45, 51, 57, 63] : List Nat)) : pt_Met (n + 1) 117 waY [wa_r 68, wa_i 392, wa_i 393, wa_i 394, wa_r T] (fun r _ => da_rP r) (da_rQ T) 1 := by
  refine pt_intro (L0 := [wa_r 68, wa_i 392, wa_i 393, wa_i 394, wa_r T, wa_u]) da_pl.1 hn wasys (by
    rw [da_ml.1]
    rfl) (fun P r M h hp => ?_)
  obtain ⟨hseg, henv, hrel, -, hld, -, hst, -, -, -, hret, -, -, -⟩ := h
  refine henv _ _ _ _ _ (fun hE hM => ?_)
  have h0 : r 0 = 0 := hE.1
  obtain ⟨s, hs, e1, e2, m0, m9⟩ := hp
  obtain ⟨bm, bs, b32⟩ := wa_bd hE
  obtain ⟨bz, -⟩ := bs s hs
  have i2 : -2147483648 ≤ r 393 ∧ r 393 ≤ 2147483647 := b32 2 (by omega)
  have rows := List.all_eq_true.mp (da_okT hT) s (List.mem_range.mpr hs)
  rw [Bool.and_eq_true] at rows
  obtain ⟨rin, rq⟩ := rows
  unfold da_in at rin
  simp only [Bool.and_eq_true] at rin
  obtain ⟨⟨c1, c2, c3⟩, c4⟩ := rin
  have htb := da_tbr hT
  obtain ⟨w, hw⟩ : ∃ w : Nat → Int, w = fun q => M (70 + s) ((r 393).toNat + q) := ⟨_, rfl⟩
  have w32 : ∀ q, r 393 ≤ 8 → q < 4 → -2147483648 ≤ w q ∧ w q ≤ 2147483647 := fun q h1 h2 => by
    have g := hM (70 + s, 12, 0) (by
      have k : ∀ s, s < 12 → (70 + s, 12, 0) ∈ waY.2.2.1 := fun s hs => by
        have z : (List.range 12).all (fun s => waY.2.2.1.any (fun x => decide (x = (70 + s, 12, 0)))) = true := by decide +kernel
        obtain ⟨x, hx, e⟩ := List.any_eq_true.mp (List.all_eq_true.mp z s (List.mem_range.mpr hs))
        rw [← of_decide_eq_true e]
        exact hx
      exact k s hs) ((r 393).toNat + q) (by show (r 393).toNat + q < 12; omega)
    rw [hw]
    exact g.1 (by show (0 : Nat) ≠ 1; decide)
  refine hrel (0, 0, 0) _ (da_L s T wa_u) _ [] r M ⟨rfl, ⟨by show 0 < 491; omega, by show r 392 + 0 = r 0 + (s : Int); rw [h0, e1]; omega⟩, ⟨by show 393 < 491; omega, rfl⟩, ⟨by show 394 < 491; omega, rfl⟩, rfl, trivial, trivial⟩ trivial ?_
  have mn : (((s + 1 : Nat)) : Int) ≤ r 74 ∧ r 74 ≤ 12 := ⟨by omega, bm.2⟩
  have out : ∀ (r' : Nat → Int) (L : List ai_V) (pc k : Nat), (∀ t, t < 391 → r' t = r t) → pt_is 5 117 pc = true → k ≠ 0 → dv_r (r (213 + s)) (r 393) (r 394) w = (k : Int) → P (pc, 0, 0) L [wa_k k] r' M := fun r' L pc k hr' h1 h2 h3 => hret (pc, 0, 0) _ (0, .ofNat k) _ M rfl h1 (Nat.ble_eq_true_of_le (Nat.zero_le _)) (Nat.ble_eq_true_of_le (Nat.zero_le _)) ⟨s, hs, e1, congrArg some (by rw [← hw]; show r' 0 + (k : Int) = _; rw [hr' 0 (by omega), h0, h3, Int.zero_add]), rfl, fun t ht => by rw [← hw, if_neg (by rw [h3]; omega)]; exact hr' t ht⟩
  by_cases a : r (213 + s) = -1
  · exact hseg _ _ _ _ _ _ _ _ _ _ _ _ c1 ⟨pt_m0, pt_m2 mn ⟨by show (-1 : Int) ≤ r (213 + s); omega, by show r (213 + s) ≤ (-1 : Int); omega⟩, pt_m0⟩ ⟨fun _ => out r _ 19 1 (fun _ _ => rfl) da_is.1 (by omega) (by unfold dv_r; rw [if_pos a]; rfl), trivial⟩
  have a' : 0 ≤ r (213 + s) := by omega
  by_cases b : r 393 ≤ -1
  · exact hseg _ _ _ _ _ _ _ _ _ _ _ _ c2 ⟨pt_m0, pt_m3 mn ⟨a', bz.2⟩ ⟨i2.1, b⟩, pt_m0⟩ ⟨fun _ => out r _ 38 3 (fun _ _ => rfl) da_is.2.1 (by omega) (by unfold dv_r; rw [if_neg a, if_pos (Or.inl (by omega))]; rfl), trivial⟩
  have b' : 0 ≤ r 393 := by omega
  by_cases c : r (213 + s) ≤ r 393 + 3
  · exact hseg _ _ _ _ _ _ _ _ _ _ _ _ c3 ⟨pt_m0, pt_m3 mn ⟨a', bz.2⟩ ⟨b', i2.2⟩, pt_m1 (by show r (213 + s) + (-3) ≤ r 393 + 0; omega)⟩ ⟨fun _ => out r _ 38 3 (fun _ _ => rfl) da_is.2.1 (by omega) (by unfold dv_r; rw [if_neg a, if_pos (Or.inr (by omega))]; rfl), trivial⟩
  have c' : r 393 + 4 ≤ r (213 + s) := by omega
  have t8 : (0 : Int) ≤ r 393 ∧ r 393 ≤ 8 := ⟨b', by omega⟩
  have qrow : ∀ q : Nat, q < 4 → da_q s T q = true ∧ da_z s T q = true := fun q hq => by
    have g := List.all_eq_true.mp rq q (List.mem_range.mpr hq)
    rw [Bool.and_eq_true] at g
    exact g
  -- the second loop
  have loop2 : (∀ q : Nat, q < 4 → 0 ≤ w q ∧ w q ≤ r 394) → ∀ (d q : Nat) (r' : Nat → Int), q + d = 3 → (∀ t, t ≠ 471 → r' t = da_nu r T q w t) → P (98, 0, 0) (da_L s T (wa_k q)) [.inl (393, .ofNat q), wa_r (70 + s), wa_k q, wa_r T] r' M := fun good => by
    have step : ∀ (q : Nat) (r' : Nat → Int), q < 4 → (∀ t, t ≠ 471 → r' t = da_nu r T q w t) → (∀ r2 : Nat → Int, (∀ t, t ≠ 471 → r2 t = da_nu r T (q + 1) w t) → r2 = pt_up (pt_set r' 471 (w q)) (da_ny s T q).2.2.2.1 → P (da_ny s T q).2.1 (da_ny s T q).2.2.1.1 (da_ny s T q).2.2.1.2 (pt_up (pt_set r' 471 (w q)) (da_ny s T q).2.2.2.1) M) → P (98, 0, 0) (da_L s T (wa_k q)) [.inl (393, .ofNat q), wa_r (70 + s), wa_k q, wa_r T] r' M := fun q r' hq4 hr' nxt => by
      obtain ⟨g1, g2⟩ := qrow q hq4
      unfold da_q at g1
      simp only [Bool.and_eq_true] at g1
      obtain ⟨-, -, k2⟩ := g1
      have ra : r' 393 = r 393 := (hr' _ (by omega)).trans (da_nun (by omega) (by omega))
      have ei : ai_vx r' (393, .ofNat q) = (((r 393).toNat + q : Nat) : Int) := by
        show r' 393 + (q : Int) = _
        rw [ra]
        omega
      refine hld (98, 0, 0) _ _ r' _ (70 + s) 12 471 ((r 393).toNat + q) (393, .ofNat q) k2 (by omega) ei ?_
      rw [show M (70 + s) ((r 393).toNat + q) = w q by rw [hw]]
      have r2s : pt_set r' 471 (w q) 471 = w q := if_pos rfl
      have r2n : ∀ t, t ≠ 471 → pt_set r' 471 (w q) t = da_nu r T q w t := fun t ht => (if_neg ht).trans (hr' t ht)
      refine hseg _ _ _ _ _ _ _ _ _ _ _ _ g2 ⟨pt_m0, pt_m1 (by
        show (0 : Int) ≤ pt_set r' 471 (w q) 393 ∧ pt_set r' 471 (w q) 393 ≤ 8
        rw [show pt_set r' 471 (w q) 393 = r' 393 from if_neg (by omega), ra]
        exact t8), pt_m0⟩ ⟨fun _ => nxt _ (fun t ht => ?_) rfl, trivial⟩
      have eW : (da_ny s T q).2.2.2.1 = [(da_tb T + q, wa_s 471)] := by
        unfold da_ny
        cases Nat.beq q 3 <;> rfl
      rw [eW]
      show (if t = da_tb T + q then pt_set r' 471 (w q) 471 else pt_set r' 471 (w q) t) = da_nu r T (q + 1) w t
      unfold da_nu
      by_cases e : t = da_tb T + q
      · rw [if_pos e, r2s, if_pos ⟨by omega, by omega⟩, show t - da_tb T = q by omega]
      · rw [if_neg e, r2n t ht]
        unfold da_nu
        by_cases g : da_tb T ≤ t ∧ t < da_tb T + q
        · rw [if_pos g, if_pos ⟨g.1, by omega⟩]
        · rw [if_neg g, if_neg (by omega)]
    intro d
    induction d with
    | zero =>
      intro q r' hqd hr'
      have hq : q = 3 := by omega
      subst hq
      refine step 3 r' (by omega) hr' (fun r2 hr2 er2 => ?_)
      rw [← er2]
      show P (107, 0, 0) (da_L s T (wa_k 4)) [wa_k 0] r2 M
      have dv := dv_good a b' c' good
      refine hret (107, 0, 0) _ (0, .ofNat 0) _ _ rfl da_is.2.2.2.1 (Nat.ble_eq_true_of_le (Nat.zero_le _)) (Nat.ble_eq_true_of_le (Nat.zero_le _)) ⟨s, hs, e1, congrArg some ?_, rfl, fun t ht => ?_⟩
      · rw [← hw, dv]
        show r2 0 + 0 = 0
        rw [hr2 0 (by omega), da_nun (by omega) (by omega), h0]
        rfl
      · rw [← hw, if_pos dv]
        exact hr2 t (by omega)
    | succ d ih =>
      intro q r' hqd hr'
      refine step q r' (by omega) hr' (fun r2 hr2 er2 => ?_)
      rw [← er2]
      have ny : da_ny s T q = (98, ((98, 0, 0), (da_L s T (wa_k (q + 1)), [.inl (393, .ofNat (q + 1)), wa_r (70 + s), wa_k (q + 1), wa_r T]), [(da_tb T + q, wa_s 471)], [])) := by
        unfold da_ny
        rw [show Nat.beq q 3 = false from by
          cases e : Nat.beq q 3 with
          | false => rfl
          | true =>
            have := Nat.eq_of_beq_eq_true e
            omega]
      rw [ny]
      exact ih (q + 1) r2 (by omega) hr2
  -- the first loop
  have loop1 : ∀ (d q : Nat) (r' : Nat → Int), q + d = 3 → (∀ t, t ≠ 471 → r' t = r t) → (∀ z : Nat, z < q → 0 ≤ w z ∧ w z ≤ r 394) → P (58, 0, 0) (da_L s T (wa_k q)) [.inl (393, .ofNat q), wa_r (70 + s)] r' M := by
    intro d
    induction d with
    | zero =>
      intro q r' hqd hr' hz
      have hq : q = 3 := by omega
      subst hq
      obtain ⟨g1, -⟩ := qrow 3 (by omega)
      unfold da_q at g1
      simp only [Bool.and_eq_true] at g1
      obtain ⟨⟨v1, v2, v3⟩, k1, -⟩ := g1
      have ei : ai_vx r' (393, .ofNat 3) = (((r 393).toNat + 3 : Nat) : Int) := by
        show r' 393 + 3 = _
        rw [hr' _ (by omega)]
        omega
      refine hld (58, 0, 0) _ _ r' _ (70 + s) 12 471 ((r 393).toNat + 3) (393, .ofNat 3) k1 (by omega) ei ?_
      obtain ⟨r2, hr2⟩ : ∃ r2, r2 = pt_set r' 471 (M (70 + s) ((r 393).toNat + 3)) := ⟨_, rfl⟩
      rw [← hr2]
      have r2s : r2 471 = w 3 := by
        rw [hr2, hw]
        exact if_pos rfl
      have r2n : ∀ t, t ≠ 471 → r2 t = r t := fun t ht => by
        rw [hr2]
        exact (if_neg ht).trans (hr' t ht)
      have w3 := w32 3 t8.2 (by omega)
      by_cases z1 : w 3 ≤ -1
      · exact hseg _ _ _ _ _ _ _ _ _ _ _ _ v2 ⟨pt_m0, pt_m1 ⟨by show (-2147483648 : Int) ≤ r2 471; omega, by show r2 471 ≤ (-1 : Int); omega⟩, pt_m0⟩ ⟨fun _ => out r2 _ 68 4 (fun t ht => r2n t (by omega)) da_is.2.2.1 (by omega) (dv_bad a b' c' (q := 3) (by omega) (by omega)), trivial⟩
      by_cases z2 : r 394 + 1 ≤ w 3
      · exact hseg _ _ _ _ _ _ _ _ _ _ _ _ v3 ⟨pt_m0, pt_m2 ⟨by show (0 : Int) ≤ r2 471; omega, by show r2 471 ≤ (2147483647 : Int); omega⟩ ⟨by show (0 : Int) ≤ r2 394; rw [r2n _ (by omega)]; exact m0, by show r2 394 ≤ (9 : Int); rw [r2n _ (by omega)]; exact m9⟩, pt_m1 (by show r2 394 + 1 ≤ r2 471 + 0; rw [r2n _ (by omega), r2s]; omega)⟩ ⟨fun _ => out r2 _ 68 4 (fun t ht => r2n t (by omega)) da_is.2.2.1 (by omega) (dv_bad a b' c' (q := 3) (by omega) (by omega)), trivial⟩
      have nx : da_nx s T 3 = (98, ((98, 0, 0), (da_L s T (wa_k 0), [.inl (393, .ofNat 0), wa_r (70 + s), wa_k 0, wa_r T]), [], [])) := rfl
      rw [nx] at v1
      refine hseg _ _ _ _ _ _ _ _ _ _ _ _ v1 ⟨pt_m0, pt_m3 ⟨by show (0 : Int) ≤ r2 471; omega, by show r2 471 ≤ (9 : Int); omega⟩ ⟨by show (0 : Int) ≤ r2 394; rw [r2n _ (by omega)]; exact m0, by show r2 394 ≤ (9 : Int); rw [r2n _ (by omega)]; exact m9⟩ (by show (0 : Int) ≤ r2 393 ∧ r2 393 ≤ 8; rw [r2n _ (by omega)]; exact t8), pt_m1 (by show r2 471 + 0 ≤ r2 394 + 0; rw [r2n 394 (by omega), r2s]; omega)⟩ ⟨fun _ => ?_, trivial⟩
      have good : ∀ q : Nat, q < 4 → 0 ≤ w q ∧ w q ≤ r 394 := fun q hq => by
        by_cases e : q = 3
        · subst e
          omega
        · exact hz q (by omega)
      exact loop2 good 3 0 r2 (by omega) (fun t ht => by rw [da_nu0]; exact r2n t ht)
    | succ d ih =>
      intro q r' hqd hr' hz
      have hq4 : q < 4 := by omega
      obtain ⟨g1, -⟩ := qrow q hq4
      unfold da_q at g1
      simp only [Bool.and_eq_true] at g1
      obtain ⟨⟨v1, v2, v3⟩, k1, -⟩ := g1
      have ei : ai_vx r' (393, .ofNat q) = (((r 393).toNat + q : Nat) : Int) := by
        show r' 393 + (q : Int) = _
        rw [hr' _ (by omega)]
        omega
      refine hld (58, 0, 0) _ _ r' _ (70 + s) 12 471 ((r 393).toNat + q) (393, .ofNat q) k1 (by omega) ei ?_
      obtain ⟨r2, hr2⟩ : ∃ r2, r2 = pt_set r' 471 (M (70 + s) ((r 393).toNat + q)) := ⟨_, rfl⟩
      rw [← hr2]
      have r2s : r2 471 = w q := by
        rw [hr2, hw]
        exact if_pos rfl
      have r2n : ∀ t, t ≠ 471 → r2 t = r t := fun t ht => by
        rw [hr2]
        exact (if_neg ht).trans (hr' t ht)
      have w3 := w32 q t8.2 hq4
      by_cases z1 : w q ≤ -1
      · exact hseg _ _ _ _ _ _ _ _ _ _ _ _ v2 ⟨pt_m0, pt_m1 ⟨by show (-2147483648 : Int) ≤ r2 471; omega, by show r2 471 ≤ (-1 : Int); omega⟩, pt_m0⟩ ⟨fun _ => out r2 _ 68 4 (fun t ht => r2n t (by omega)) da_is.2.2.1 (by omega) (dv_bad a b' c' hq4 (by omega)), trivial⟩
      by_cases z2 : r 394 + 1 ≤ w q
      · exact hseg _ _ _ _ _ _ _ _ _ _ _ _ v3 ⟨pt_m0, pt_m2 ⟨by show (0 : Int) ≤ r2 471; omega, by show r2 471 ≤ (2147483647 : Int); omega⟩ ⟨by show (0 : Int) ≤ r2 394; rw [r2n _ (by omega)]; exact m0, by show r2 394 ≤ (9 : Int); rw [r2n _ (by omega)]; exact m9⟩, pt_m1 (by show r2 394 + 1 ≤ r2 471 + 0; rw [r2n _ (by omega), r2s]; omega)⟩ ⟨fun _ => out r2 _ 68 4 (fun t ht => r2n t (by omega)) da_is.2.2.1 (by omega) (dv_bad a b' c' hq4 (by omega)), trivial⟩
      have nx : da_nx s T q = (58, ((58, 0, 0), (da_L s T (wa_k (q + 1)), [.inl (393, .ofNat (q + 1)), wa_r (70 + s)]), [], [])) := by
        unfold da_nx
        rw [show Nat.beq q 3 = false from by
          cases e : Nat.beq q 3 with
          | false => rfl
          | true =>
            have := Nat.eq_of_beq_eq_true e
            omega]
      rw [nx] at v1
      refine hseg _ _ _ _ _ _ _ _ _ _ _ _ v1 ⟨pt_m0, pt_m3 ⟨by show (0 : Int) ≤ r2 471; omega, by show r2 471 ≤ (9 : Int); omega⟩ ⟨by show (0 : Int) ≤ r2 394; rw [r2n _ (by omega)]; exact m0, by show r2 394 ≤ (9 : Int); rw [r2n _ (by omega)]; exact m9⟩ (by show (0 : Int) ≤ r2 393 ∧ r2 393 ≤ 8; rw [r2n _ (by omega)]; exact t8), pt_m1 (by show r2 471 + 0 ≤ r2 394 + 0; rw [r2n 394 (by omega), r2s]; omega)⟩ ⟨fun _ => ?_, trivial⟩
      exact ih (q + 1) r2 (by omega) r2n (fun z hz2 => by
        by_cases e : z = q
        · subst e
          omega
        · exact hz z (by omega))
  refine hseg _ _ _ _ _ _ _ _ _ _ _ _ c4 ⟨pt_m0, pt_m3 mn ⟨by show (4 : Int) ≤ r (213 + s); omega, bz.2⟩ t8, pt_m1 (by show r 393 + 4 ≤ r (213 + s) + 0; omega)⟩ ⟨fun _ => ?_, trivial⟩
  exact loop1 3 0 r (by omega) (fun _ _ => rfl) (fun z hz => absurd hz (by omega))
