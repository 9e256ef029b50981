/-! TEXTS (the class): what a state says of a reading; emit, fail, pass -/
theorem ps_gl {α : Type} {d c : α} : ∀ {l : List α} {j : Nat}, j < l.length → (l ++ [c]).getD j d = l.getD j d
  | [], j, h => absurd h (by show ¬ j < 0; omega)
  | _ :: _, 0, _ => rfl
  | _ :: l, j + 1, h => ps_gl (l := l) (j := j) (by have h : j + 1 < l.length + 1 := h; omega)
theorem ps_ge {α : Type} {d c : α} : ∀ {l : List α}, (l ++ [c]).getD l.length d = c
  | [] => rfl
  | _ :: l => ps_ge (l := l)
noncomputable def ga_R (A : Nat → Int) (N : Nat) (σ : ps_S) (r : Nat → Int) (M : Nat → Nat → Int) : Prop := ga_T A N r M ∧ (r 38 = σ.2.2.1 ∧ r 85 = σ.2.2.2 ∧ 0 ≤ σ.2.2.1 ∧ σ.2.2.1 ≤ 3) ∧ (σ.2.2.1 = 0 → (r 41 = (ps_st A N σ.1 : Int) ∧ r 42 = (ps_tk A N σ.1 : Int) ∧ r 40 = (ps_en A N σ.1 : Int) ∧ (ps_tk A N σ.1 ≠ 0 → r 43 = ps_vl A N σ.1)) ∧ r 37 = (σ.2.1.length : Int) ∧ ∀ j, j < σ.2.1.length → M 85 j = σ.2.1.getD j 0)
noncomputable def ga_Zs (N : Nat) (σ : ps_S) : Prop := σ.2.2.1 = 0 → σ.1 ≤ N ∧ σ.2.1.length ≤ σ.1
noncomputable def ga_fr (r : Nat → Int) (M : Nat → Nat → Int) (r2 : Nat → Int) (M2 : Nat → Nat → Int) : Prop := r2 75 = r 75 ∧ ∀ z, z ≠ 85 → M2 z = M z
theorem ga_fr.rf {r : Nat → Int} {M : Nat → Nat → Int} : ga_fr r M r M := ⟨rfl, fun _ _ => rfl⟩
theorem ga_fr.tr {r r2 r3 : Nat → Int} {M M2 M3 : Nat → Nat → Int} (h : ga_fr r M r2 M2) (g : ga_fr r2 M2 r3 M3) : ga_fr r M r3 M3 := ⟨g.1.trans h.1, fun z hz => (g.2 z hz).trans (h.2 z hz)⟩
theorem ga_R_c {A : Nat → Int} {N : Nat} {σ : ps_S} {r r2 : Nat → Int} {M : Nat → Nat → Int} (e : ∀ t, t < 391 → r2 t = r t) (h : ga_R A N σ r M) : ga_R A N σ r2 M := by
  obtain ⟨h1, ⟨h2, h3, h4⟩, h5⟩ := h
  refine ⟨ga_T_c (e _ (by omega)) h1, ⟨(e _ (by omega)).trans h2, (e _ (by omega)).trans h3, h4⟩, fun k => ?_⟩
  obtain ⟨⟨a1, a2, a3, a4⟩, a5, a6⟩ := h5 k
  exact ⟨⟨(e _ (by omega)).trans a1, (e _ (by omega)).trans a2, (e _ (by omega)).trans a3, fun w => (e _ (by omega)).trans (a4 w)⟩, (e _ (by omega)).trans a5, a6⟩
theorem ga_Zs_ok {N : Nat} {σ τ : ps_S} (h : ps_ok N σ τ) (z : ga_Zs N σ) : ga_Zs N τ := fun k => by
  obtain ⟨h1, h2⟩ := h k
  obtain ⟨z1, z2⟩ := z h1
  obtain ⟨a1, a2, a3⟩ := h2 z1
  omega
/-- a contract: a reading goes on -/
noncomputable def ga_K (n mj : Nat) (A : Nat → Int) (N : Nat) (σ τ : ps_S) (a : Int) : Prop := pt_Met n mj gaY [wa_r 84, wa_i 392] (fun r M => (ga_R A N σ r M ∧ ga_Zs N σ) ∧ r 392 = a) (fun r M r2 M2 o => o = none ∧ ga_R A N τ r2 M2 ∧ ga_fr r M r2 M2) 0
theorem ga_bdV : (43, ((-2147483648 : Int), (2147483647 : Int))) ∈ gaE.2.1 ∧ (37, ((0 : Int), (200 : Int))) ∈ gaE.2.1 := by decide +kernel
section GAK
variable {n mi : Nat} {rt : Nat} {Z : (Nat → Int) → (Nat → Nat → Int) → Option Int → Prop} {P : pt_P} {A : Nat → Int} {N : Nat} {σ τ : ps_S} {r : Nat → Int} {M : Nat → Nat → Int} {pc : Nat} {L S' : List ai_V} {a : Int} {y : ai_X}
/-- a call with one number, nothing answered -/
theorem ga_call {Pre : (Nat → Int) → (Nat → Nat → Int) → Prop} {Post : (Nat → Int) → (Nat → Nat → Int) → (Nat → Int) → (Nat → Nat → Int) → Option Int → Prop} (h : pt_Cl n mi gaY rt Z P) {mj : Nat} (hb : ct_bud mj = (0, 0) ∧ lh_plain mj = true) (hck : (cy_vk mi pc mj gaY.2.1 (.inl y :: wa_r 84 :: S') [wa_r 84, .inl y] S' && pt_cck gaY mi mj (pc, 0, 0) 0 471 L S' [wa_r 84, .inl y] [wa_r 84, wa_i 392]) = true) (met : pt_Met n mj gaY [wa_r 84, wa_i 392] Pre Post 0) (hpre : ∀ rc, (∀ t, t < 391 → rc t = r t) → rc 392 = ai_vx r y → Pre rc M)
    (k : ∀ rc r2 M2 r3, (∀ t, t < 391 → rc t = r t) → rc 392 = ai_vx r y → (∃ o, Post rc M r2 M2 o) → (∀ t, t < 391 → r3 t = r2 t) → (∀ t, 391 ≤ t → t ≠ 471 → r3 t = r t) → P (pc + 3, 0, 0) L S' r3 M2) : P (pc, 0, 0) L (.inl y :: wa_r 84 :: S') r M := by
  rw [Bool.and_eq_true] at hck
  obtain ⟨-, henv, -, -, -, -, -, -, hcall, -⟩ := h
  refine henv _ _ _ _ _ (fun hE _ => ?_)
  obtain ⟨rc, hrc⟩ : ∃ rc, rc = pt_up r (pt_wc [wa_r 84, .inl y] [wa_r 84, wa_i 392]) := ⟨_, rfl⟩
  have rcv : ∀ t, rc t = if t = 392 then ai_vx r y else r t := fun t => by
    rw [hrc, ← pt_xr_ok hE.1 y]
    rfl
  have rcl : ∀ t, t < 391 → rc t = r t := fun t ht => by rw [rcv, if_neg (by omega)]
  have rca : rc 392 = ai_vx r y := by rw [rcv, if_pos rfl]
  refine hcall (pc, 0, 0) _ _ _ _ _ r M mj 0 471 _ _ hb.2 hck.1 hck.2 met (by rw [← hrc]; exact hpre rc rcl rca) (fun r2 M2 o hq => ?_)
  rw [← hrc] at hq
  obtain ⟨c1, c2⟩ := wa_rm (n := n) hb.1
  rw [c1, c2]
  refine k rc r2 M2 _ rcl rca ⟨o, hq⟩ (fun t ht => if_pos ht) (fun t h1 h2 => ?_)
  show (if t < 391 then r2 t else _) = r t
  rw [if_neg (by omega)]
  cases o with
  | none => rfl
  | some x =>
    show (if t = 471 then x else r t) = r t
    rw [if_neg h2]
theorem ga_use (h : pt_Cl n mi gaY rt Z P) {mj : Nat} (hb : ct_bud mj = (0, 0) ∧ lh_plain mj = true) (hck : (cy_vk mi pc mj gaY.2.1 (.inl y :: wa_r 84 :: S') [wa_r 84, .inl y] S' && pt_cck gaY mi mj (pc, 0, 0) 0 471 L S' [wa_r 84, .inl y] [wa_r 84, wa_i 392]) = true) (met : ga_K n mj A N σ τ a) (hR : ga_R A N σ r M) (hz : ga_Zs N σ) (ha : ai_vx r y = a)
    (k : ∀ r2 M2, ga_R A N τ r2 M2 → ga_fr r M r2 M2 → (∀ t, 391 ≤ t → t ≠ 471 → r2 t = r t) → P (pc + 3, 0, 0) L S' r2 M2) : P (pc, 0, 0) L (.inl y :: wa_r 84 :: S') r M :=
  ga_call h hb hck met (fun rc e1 e2 => ⟨⟨ga_R_c e1 hR, hz⟩, e2.trans ha⟩) (fun rc r2 M2 r3 e1 e2 ho e3 e4 => by
    obtain ⟨o, rfl, g1, g2⟩ := ho
    exact k r3 M2 (ga_R_c e3 g1) ⟨by rw [e3 _ (by omega), g2.1, e1 _ (by omega)], g2.2⟩ e4)
end GAK
theorem ga_e_c : pt_row gaY 99 [26, 37] true (0, 0, 0) (ga_L (wa_i 392)) [] [] [(37, (0, 199))] [] [] [((26, 0, 0), (ga_L (wa_i 392), [wa_i 392, wa_i 37, wa_r 85]), [], [])] = true ∧ pt_row gaY 99 [26, 37] true (0, 0, 0) (ga_L (wa_i 392)) [] [] [(37, (200, 200))] [] [] [((37, 0, 0), (ga_L (wa_i 392), []), [], [])] = true ∧ pt_row gaY 99 [37] false (27, 0, 0) (ga_L (wa_i 392)) [] [] [(37, (0, 199))] [] [] [((37, 0, 0), (ga_L (wa_i 392), []), [(37, gz_d 37 1)], [])] = true ∧ pt_sck gaY 99 26 2 85 200 0 = true ∧ pt_is 7 99 37 = true ∧ (ct_mt 99).2.2.1 = 2 := by decide +kernel
/-- emit -/
theorem ga_eM {A : Nat → Int} {N n : Nat} {σ : ps_S} {c : Int} (hn : 4 ≤ n) : pt_Met (n + 1) 99 gaY [wa_r 84, wa_i 392] (fun r M => (ga_R A N σ r M ∧ (σ.2.2.1 = 0 → σ.2.1.length < 200)) ∧ r 392 = c) (fun r M r2 M2 o => o = none ∧ ga_R A N (ps_em c σ) r2 M2 ∧ ga_fr r M r2 M2) 0 := by
  refine pt_intro (L0 := ga_L (wa_i 392)) (ga_b0 99 (by decide)).2 hn gasys (by
    rw [ga_e_c.2.2.2.2.2]
    rfl) (fun P r M h hp => ?_)
  obtain ⟨hseg, henv, -, -, -, -, hst, -, -, -, -, -, -, hvret⟩ := h
  obtain ⟨c1, c2, c3, c4, c5, -⟩ := ga_e_c
  obtain ⟨⟨hR, hl⟩, ha⟩ := hp
  refine henv _ _ _ _ _ (fun hE _ => ?_)
  have bC : (0 : Int) ≤ r 37 ∧ r 37 ≤ 200 := (hE.2.2.2.1 _ ga_bdV.2).2
  have hR' := hR
  obtain ⟨h1, ⟨h2, h3, h4⟩, h5⟩ := hR'
  by_cases q : r 37 ≤ 199
  · refine hseg _ _ _ _ _ r M _ _ _ _ _ c1 ⟨pt_m0, pt_m1 ⟨bC.1, q⟩, pt_m0⟩ ⟨fun _ => ?_, trivial⟩
    show P (26, 0, 0) (ga_L (wa_i 392)) [wa_i 392, wa_i 37, wa_r 85] r M
    obtain ⟨j, hj⟩ : ∃ j : Nat, r 37 = (j : Int) := ⟨(r 37).toNat, by omega⟩
    refine hst (26, 0, 0) _ [] r M 85 200 j (37, 0) (392, 0) c4 (by omega) (by show r 37 + 0 = _; omega) ?_
    have ev : ai_vx r (392, 0) = c := by
      show r 392 + 0 = c
      omega
    rw [ev]
    obtain ⟨M2, hM2⟩ : ∃ M2, M2 = pt_sto M 85 j c := ⟨_, rfl⟩
    rw [← hM2]
    refine hseg _ _ _ _ _ r M2 _ _ _ _ _ c3 ⟨pt_m0, pt_m1 ⟨bC.1, q⟩, pt_m0⟩ ⟨fun _ => ?_, trivial⟩
    obtain ⟨r2, hr2⟩ : ∃ r2, r2 = pt_up r [(37, gz_d 37 1)] := ⟨_, rfl⟩
    show P (37, 0, 0) (ga_L (wa_i 392)) [] (pt_up r [(37, gz_d 37 1)]) M2
    rw [← hr2]
    have n2 : ∀ t, t ≠ 37 → r2 t = r t := fun t ht => by
      rw [hr2]
      exact if_neg ht
    have co2 : r2 37 = r 37 + 1 := by
      rw [hr2]
      rfl
    have oth : ∀ z, z ≠ 85 → M2 z = M z := fun z hz => by
      rw [hM2]
      funext x
      exact if_neg (fun w => hz w.1)
    refine hvret (37, 0, 0) _ r2 M2 rfl c5 (Nat.ble_eq_true_of_le (Nat.zero_le _)) (Nat.ble_eq_true_of_le (Nat.zero_le _)) ⟨rfl, ⟨⟨(n2 _ (by omega)).trans h1.1, h1.2.1, fun x hx => by rw [oth 86 (by decide)]; exact h1.2.2 x hx⟩, ⟨(n2 _ (by omega)).trans h2, (n2 _ (by omega)).trans h3, h4⟩, fun k => ?_⟩, n2 _ (by omega), oth⟩
    obtain ⟨⟨a1, a2, a3, a4⟩, a5, a6⟩ := h5 k
    refine ⟨⟨(n2 _ (by omega)).trans a1, (n2 _ (by omega)).trans a2, (n2 _ (by omega)).trans a3, fun w => (n2 _ (by omega)).trans (a4 w)⟩, ?_, fun x hx => ?_⟩
    · show r2 37 = ((σ.2.1 ++ [c]).length : Int)
      rw [co2, List.length_append, List.length_singleton]
      omega
    · have hx : x < (σ.2.1 ++ [c]).length := hx
      rw [List.length_append, List.length_singleton] at hx
      show M2 85 x = (σ.2.1 ++ [c]).getD x 0
      rw [hM2]
      show (if 85 = 85 ∧ x = j then c else M 85 x) = _
      by_cases e : x = j
      · rw [if_pos ⟨rfl, e⟩, show x = σ.2.1.length by omega, ps_ge]
      · rw [if_neg (fun w => e w.2), ps_gl (by omega)]
        exact a6 x (by omega)
  · refine hseg _ _ _ _ _ r M _ _ _ _ _ c2 ⟨pt_m0, pt_m1 ⟨by show (200 : Int) ≤ r 37; omega, by show r 37 ≤ (200 : Int); omega⟩, pt_m0⟩ ⟨fun _ => ?_, trivial⟩
    show P (37, 0, 0) (ga_L (wa_i 392)) [] r M
    refine hvret (37, 0, 0) _ r M rfl c5 (Nat.ble_eq_true_of_le (Nat.zero_le _)) (Nat.ble_eq_true_of_le (Nat.zero_le _)) ⟨rfl, ⟨h1, ⟨h2, h3, h4⟩, fun k => ?_⟩, ga_fr.rf⟩
    have a5 := (h5 k).2.1
    have := hl k
    omega
theorem ga_f_c : pt_row gaY 98 [20] true (0, 0, 0) (ga_L (wa_i 392)) [] [] [(38, (0, 0))] [] [] [((20, 0, 0), (ga_L (wa_i 392), []), [(38, gz_p 392), (85, gz_p 41)], [])] = true ∧ pt_row gaY 98 [20] true (0, 0, 0) (ga_L (wa_i 392)) [] [] [(38, (1, 3))] [] [] [((20, 0, 0), (ga_L (wa_i 392), []), [], [])] = true ∧ pt_is 7 98 20 = true ∧ (ct_mt 98).2.2.1 = 2 := by decide +kernel
/-- fail -/
theorem ga_fM {A : Nat → Int} {N n : Nat} {σ : ps_S} {k : Int} (hn : 4 ≤ n) (hk : 1 ≤ k ∧ k ≤ 3) : pt_Met (n + 1) 98 gaY [wa_r 84, wa_i 392] (fun r M => ga_R A N σ r M ∧ r 392 = k) (fun r M r2 M2 o => o = none ∧ ga_R A N (ps_fl A N k σ) r2 M2 ∧ ga_fr r M r2 M2) 0 := by
  refine pt_intro (L0 := ga_L (wa_i 392)) (ga_b0 98 (by decide)).2 hn gasys (by
    rw [ga_f_c.2.2.2]
    rfl) (fun P r M h hp => ?_)
  obtain ⟨hseg, henv, -, -, -, -, -, -, -, -, -, -, -, hvret⟩ := h
  obtain ⟨c1, c2, c3, -⟩ := ga_f_c
  obtain ⟨hR, ha⟩ := hp
  have hR' := hR
  obtain ⟨h1, ⟨h2, h3, h4, h4'⟩, h5⟩ := hR'
  by_cases q : σ.2.2.1 = 0
  · have es : ps_fl A N k σ = (σ.1, σ.2.1, k, (ps_st A N σ.1 : Int)) := if_pos q
    refine hseg _ _ _ _ _ r M _ _ _ _ _ c1 ⟨pt_m0, pt_m1 ⟨by show (0 : Int) ≤ r 38; omega, by show r 38 ≤ (0 : Int); omega⟩, pt_m0⟩ ⟨fun _ => ?_, trivial⟩
    obtain ⟨r2, hr2⟩ : ∃ r2, r2 = pt_up r [(38, gz_p 392), (85, gz_p 41)] := ⟨_, rfl⟩
    show P (20, 0, 0) (ga_L (wa_i 392)) [] (pt_up r [(38, gz_p 392), (85, gz_p 41)]) M
    rw [← hr2]
    have n2 : ∀ t, t ≠ 38 → t ≠ 85 → r2 t = r t := fun t a b => by
      rw [hr2]
      exact (if_neg a).trans (if_neg b)
    refine hvret (20, 0, 0) _ r2 M rfl c3 (Nat.ble_eq_true_of_le (Nat.zero_le _)) (Nat.ble_eq_true_of_le (Nat.zero_le _)) ⟨rfl, ?_, n2 _ (by omega) (by omega), fun _ _ => rfl⟩
    rw [es]
    refine ⟨ga_T_c (n2 _ (by omega) (by omega)) h1, ⟨by rw [hr2]; exact ha, by rw [hr2]; exact (h5 q).1.1, by show 0 ≤ k; omega, by show k ≤ 3; omega⟩, fun w => ?_⟩
    have w : k = 0 := w
    omega
  · have es : ps_fl A N k σ = σ := if_neg q
    refine hseg _ _ _ _ _ r M _ _ _ _ _ c2 ⟨pt_m0, pt_m1 ⟨by show (1 : Int) ≤ r 38; omega, by show r 38 ≤ (3 : Int); omega⟩, pt_m0⟩ ⟨fun _ => ?_, trivial⟩
    show P (20, 0, 0) (ga_L (wa_i 392)) [] r M
    refine hvret (20, 0, 0) _ r M rfl c3 (Nat.ble_eq_true_of_le (Nat.zero_le _)) (Nat.ble_eq_true_of_le (Nat.zero_le _)) ⟨rfl, ?_, ga_fr.rf⟩
    rw [es]
    exact hR
section GAU
variable {n mi : Nat} {rt : Nat} {Z : (Nat → Int) → (Nat → Nat → Int) → Option Int → Prop} {P : pt_P} {A : Nat → Int} {N : Nat} {σ : ps_S} {r : Nat → Int} {M : Nat → Nat → Int} {pc : Nat} {L S' : List ai_V} {y : ai_X}
theorem ga_useF (h : pt_Cl n mi gaY rt Z P) (hn : 5 ≤ n) {k : Int} (hk : 1 ≤ k ∧ k ≤ 3) (hck : (cy_vk mi pc 98 gaY.2.1 (.inl y :: wa_r 84 :: S') [wa_r 84, .inl y] S' && pt_cck gaY mi 98 (pc, 0, 0) 0 471 L S' [wa_r 84, .inl y] [wa_r 84, wa_i 392]) = true) (hR : ga_R A N σ r M) (ha : ai_vx r y = k)
    (go : ∀ r2 M2, ga_R A N (ps_fl A N k σ) r2 M2 → ga_fr r M r2 M2 → (∀ t, 391 ≤ t → t ≠ 471 → r2 t = r t) → P (pc + 3, 0, 0) L S' r2 M2) : P (pc, 0, 0) L (.inl y :: wa_r 84 :: S') r M := by
  obtain ⟨n, rfl⟩ : ∃ m, n = m + 1 := ⟨n - 1, by omega⟩
  refine ga_call h (ga_b0 98 (by decide)) hck (ga_fM (A := A) (N := N) (σ := σ) (k := k) (by omega) hk) (fun rc e1 e2 => ⟨ga_R_c e1 hR, e2.trans ha⟩) (fun rc r2 M2 r3 e1 e2 ho e3 e4 => ?_)
  obtain ⟨o, rfl, g1, g2⟩ := ho
  exact go r3 M2 (ga_R_c e3 g1) ⟨by rw [e3 _ (by omega), g2.1, e1 _ (by omega)], g2.2⟩ e4
theorem ga_useE (h : pt_Cl n mi gaY rt Z P) (hn : 5 ≤ n) {c : Int} (hck : (cy_vk mi pc 99 gaY.2.1 (.inl y :: wa_r 84 :: S') [wa_r 84, .inl y] S' && pt_cck gaY mi 99 (pc, 0, 0) 0 471 L S' [wa_r 84, .inl y] [wa_r 84, wa_i 392]) = true) (hR : ga_R A N σ r M) (hl : σ.2.2.1 = 0 → σ.2.1.length < 200) (ha : ai_vx r y = c)
    (go : ∀ r2 M2, ga_R A N (ps_em c σ) r2 M2 → ga_fr r M r2 M2 → (∀ t, 391 ≤ t → t ≠ 471 → r2 t = r t) → P (pc + 3, 0, 0) L S' r2 M2) : P (pc, 0, 0) L (.inl y :: wa_r 84 :: S') r M := by
  obtain ⟨n, rfl⟩ : ∃ m, n = m + 1 := ⟨n - 1, by omega⟩
  refine ga_call h (ga_b0 99 (by decide)) hck (ga_eM (A := A) (N := N) (σ := σ) (c := c) (by omega)) (fun rc e1 e2 => ⟨⟨ga_R_c e1 hR, hl⟩, e2.trans ha⟩) (fun rc r2 M2 r3 e1 e2 ho e3 e4 => ?_)
  obtain ⟨o, rfl, g1, g2⟩ := ho
  exact go r3 M2 (ga_R_c e3 g1) ⟨by rw [e3 _ (by omega), g2.1, e1 _ (by omega)], g2.2⟩ e4
/-- advance: the next token -/
theorem ga_useA (h : pt_Cl n mi gaY rt Z P) (hn : 8 ≤ n) (hck : (cy_vk mi pc 103 gaY.2.1 (wa_r 84 :: S') [wa_r 84] S' && pt_cck gaY mi 103 (pc, 0, 0) 0 471 L S' [wa_r 84] [wa_r 84]) = true) (hR : ga_R A N σ r M) (hz : ga_Zs N σ) (hk : σ.2.2.1 = 0)
    (go : ∀ r2, ga_R A N (ps_av A N σ) r2 M → ga_fr r M r2 M → (∀ t, 391 ≤ t → r2 t = r t) → P (pc + 3, 0, 0) L S' r2 M) : P (pc, 0, 0) L (wa_r 84 :: S') r M := by
  obtain ⟨n, rfl⟩ : ∃ m, n = m + 1 + 1 + 1 + 1 := ⟨n - 4, by omega⟩
  rw [Bool.and_eq_true] at hck
  obtain ⟨-, henv, -, -, -, -, -, -, hcall, -⟩ := h
  have hR' := hR
  obtain ⟨h1, ⟨h2, h3, h4⟩, h5⟩ := hR'
  obtain ⟨⟨a1, a2, a3, a4⟩, a5, a6⟩ := h5 hk
  have hA := h1.2.1
  have z1 := (hz hk).1
  have en : ps_en A N σ.1 ≤ N := by
    by_cases t0 : ps_tk A N σ.1 = 0
    · have := ps_en_0 hA z1 t0
      omega
    · exact (ps_en_le hA z1 t0).2
  refine hcall (pc, 0, 0) _ _ _ _ _ r M 103 0 471 _ _ (ga_b0 103 (by decide)).2 hck.1 hck.2 (ga_vM (A := A) (N := N) (p := ps_en A N σ.1) (by omega)) (show ga_T A N r M ∧ r 40 = (ps_en A N σ.1 : Int) ∧ ps_en A N σ.1 ≤ N from ⟨h1, a3, en⟩) (fun r2 M2 o hq => ?_)
  obtain ⟨⟨rfl, rfl⟩, ⟨q1, q2, q3, q4⟩, q5⟩ := hq
  have q5 : ∀ t, t < 391 → t ≠ 40 → t ≠ 41 → t ≠ 42 → t ≠ 43 → r2 t = r t := q5
  obtain ⟨c1, c2⟩ := wa_rm (n := n + 1 + 1 + 1 + 1) (ga_b0 103 (by decide)).1
  rw [c1, c2]
  obtain ⟨r3, hr3⟩ : ∃ r3, r3 = pt_mrg 391 r r2 471 none := ⟨_, rfl⟩
  show P (pc + 3, 0, 0) L S' (pt_mrg 391 r r2 471 none) M2
  rw [← hr3]
  have l3 : ∀ t, t < 391 → r3 t = r2 t := fun t ht => by
    rw [hr3]
    exact if_pos ht
  have f3 : ∀ t, t < 391 → t ≠ 40 → t ≠ 41 → t ≠ 42 → t ≠ 43 → r3 t = r t := fun t b1 b2 b3 b4 b5 => (l3 t b1).trans (q5 t b1 b2 b3 b4 b5)
  refine go r3 ⟨ga_T_c (f3 _ (by omega) (by omega) (by omega) (by omega) (by omega)) h1, ⟨(f3 _ (by omega) (by omega) (by omega) (by omega) (by omega)).trans h2, (f3 _ (by omega) (by omega) (by omega) (by omega) (by omega)).trans h3, h4⟩, fun _ => ⟨⟨(l3 _ (by omega)).trans q1, (l3 _ (by omega)).trans q2, (l3 _ (by omega)).trans q3, fun w => (l3 _ (by omega)).trans (q4 w)⟩, (f3 _ (by omega) (by omega) (by omega) (by omega) (by omega)).trans a5, a6⟩⟩ ⟨f3 _ (by omega) (by omega) (by omega) (by omega) (by omega), fun _ _ => rfl⟩ (fun t ht => ?_)
  rw [hr3]
  exact if_neg (by omega)
end GAU
