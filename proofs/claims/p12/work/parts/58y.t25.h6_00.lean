/-! TEXTS (the reference): need, readNumber, is, valueNow -/
noncomputable abbrev gb_nr (c : Int) (cp : List (Nat × Int × Int)) (pc : Nat) (S : List ai_V) (W : List (Nat × pt_X)) : Bool := pt_row gbY 192 [28, 31] true (0, 0, 0) [wa_r 264, gz_n c] [] [] cp [] [] [((pc, 0, 0), ([wa_r 264, gz_n c], S), W, [])]
noncomputable def gb_bad (k : Int) : List (Nat × pt_X) := [(83, gz_k k), (84, gz_p 81)]
noncomputable def gb_n_k (c : Int) : Bool := (gb_nr c [(83, (1, 3))] 31 [] [] && gb_nr c [(83, (0, 0)), (78, (3, 3)), (79, (c, c))] 28 [wa_r 264] []) &&
  ((gb_nr c [(83, (0, 0)), (78, (0, 2))] 31 [] (gb_bad 1) && gb_nr c [(83, (0, 0)), (78, (4, 4))] 31 [] (gb_bad 1)) && (gb_nr c [(83, (0, 0)), (78, (3, 3)), (79, (0, c - 1))] 31 [] (gb_bad 1) && gb_nr c [(83, (0, 0)), (78, (3, 3)), (79, (c + 1, 255))] 31 [] (gb_bad 1))) &&
  (cy_vk 192 28 188 gbY.2.1 [wa_r 264] [wa_r 264] [] && pt_cck gbY 192 188 (28, 0, 0) 0 471 [wa_r 264, gz_n c] [] [wa_r 264] [wa_r 264])
theorem gb_n_c : gb_n_k 41 = true ∧ gb_n_k 59 = true ∧ pt_is 7 192 31 = true ∧ (ct_mt 192).2.2.1 = 2 := by decide +kernel
theorem gb_km_v {t : Nat} : (t = 0 → gb_km t = 0) ∧ (t = 1 → gb_km t = 2) ∧ (t = 2 → gb_km t = 1) ∧ (t = 3 → gb_km t = 3) ∧ (t = 4 → gb_km t = 4) := by
  refine ⟨fun h => ?_, fun h => ?_, fun h => ?_, fun h => ?_, fun h => ?_⟩
  all_goals subst h; rfl
/-- a state that went wrong -/
theorem gb_R_bad {A : Nat → Int} {N : Nat} {σ : ps_S} {r r2 : Nat → Int} {M : Nat → Nat → Int} {k : Int} (hk : 1 ≤ k ∧ k ≤ 3) (hR : gb_R A N σ r M) (q : σ.2.2.1 = 0) (e : r2 = pt_up r (gb_bad k)) : gb_R A N (ps_fl A N k σ) r2 M ∧ gb_fr r M r2 M ∧ ∀ t, t ≠ 83 → t ≠ 84 → r2 t = r t := by
  obtain ⟨h1, h2, h5⟩ := hR
  have n2 : ∀ t, t ≠ 83 → t ≠ 84 → r2 t = r t := fun t a b => by
    rw [e]
    exact (if_neg a).trans (if_neg b)
  have es : ps_fl A N k σ = (σ.1, σ.2.1, k, (ps_st A N σ.1 : Int)) := if_pos q
  refine ⟨?_, ⟨fun t _ h => n2 t (gb_pch_n h).2.1 (gb_pch_n h).2.2.1, fun _ _ => rfl, fun _ _ => rfl⟩, n2⟩
  rw [es]
  refine ⟨gb_T_c (n2 _ (by omega) (by omega)) rfl h1, ⟨by rw [e]; rfl, fun _ => by rw [e]; exact (h5 q).1.1.1, by show 0 ≤ k; omega, by show k ≤ 3; omega⟩, fun w => ?_⟩
  have w : k = 0 := w
  omega
theorem gb_pM {A : Nat → Int} {N n : Nat} {σ : ps_S} {c : Int} (hn : 7 ≤ n) (hc : c = 41 ∨ c = 59) : gb_K (n + 1) 192 A N σ (ps_pa A N c σ) c := by
  refine pt_intro (L0 := gb_e2) (gb_b0 192 (by decide)).2 (by omega) gbsys (by
    rw [gb_n_c.2.2.2]
    rfl) (fun P r M h hp => ?_)
  have h' := h
  obtain ⟨hseg, henv, hrel, -, -, -, -, -, -, -, -, -, -, hvret⟩ := h'
  obtain ⟨⟨hR, hz⟩, ha⟩ := hp
  have ck : gb_n_k c = true := by
    rcases hc with rfl | rfl
    · exact gb_n_c.1
    · exact gb_n_c.2.1
  unfold gb_n_k at ck
  simp only [Bool.and_eq_true] at ck
  obtain ⟨⟨⟨c1, c2⟩, ⟨c3, c4⟩, c5, c6⟩, c7⟩ := ck
  have hR' := hR
  obtain ⟨h1, ⟨h2, h3, h4, h4'⟩, h5⟩ := hR'
  refine henv _ _ _ _ _ (fun hE _ => ?_)
  have h00 : r 0 = 0 := hE.1
  refine hrel (0, 0, 0) _ [wa_r 264, gz_n c] _ [] r M ⟨rfl, ⟨by show 0 < 491; omega, by show r 392 + 0 = r 0 + c; omega⟩, trivial⟩ trivial ?_
  have fin : ∀ r2 M2, gb_R A N (ps_pa A N c σ) r2 M2 → gb_fr r M r2 M2 → P (31, 0, 0) [wa_r 264, gz_n c] [] r2 M2 := fun r2 M2 g1 g2 => hvret (31, 0, 0) _ r2 M2 rfl gb_n_c.2.2.1 (Nat.ble_eq_true_of_le (Nat.zero_le _)) (Nat.ble_eq_true_of_le (Nat.zero_le _)) ⟨rfl, g1, g2⟩
  by_cases q : σ.2.2.1 = 0
  · have k0 : (0 : Int) ≤ r 83 ∧ r 83 ≤ 0 := by omega
    obtain ⟨⟨⟨a1, a2, a3, a4⟩, a5, a6⟩, a7⟩ := h5 q
    have t4 := ps_tk4 (A := A) (n := N) (p := σ.1)
    have km := gb_km_v (t := ps_tk A N σ.1)
    have bad : ¬ ps_is A N c σ = true → P (31, 0, 0) [wa_r 264, gz_n c] [] (pt_up r (gb_bad 1)) M := fun w => by
      obtain ⟨g1, g2, -⟩ := gb_R_bad (k := 1) (by omega) hR q rfl
      refine fin _ M ?_ g2
      unfold ps_pa
      rw [if_pos q, if_neg w]
      exact g1
    by_cases t3 : ps_tk A N σ.1 = 3
    · have vl := a5 t3
      have rg := (ps_vl_rg h1.2.1 σ.1).1 t3
      have kd : (3 : Int) ≤ r 78 ∧ r 78 ≤ 3 := by rw [a2, km.2.2.2.1 t3]; omega
      by_cases e : ps_vl A N σ.1 = c
      · refine hseg _ _ _ _ _ r M _ _ _ _ _ c2 ⟨pt_m0, pt_m3 k0 kd ⟨by show c ≤ r 79; omega, by show r 79 ≤ c; omega⟩, pt_m0⟩ ⟨fun _ => ?_, trivial⟩
        show P (28, 0, 0) [wa_r 264, gz_n c] (wa_r 264 :: []) r M
        refine gb_useA h (by omega) (by rw [Bool.and_eq_true]; exact c7) hR (hz q).1 q (fun r2 g1 g2 _ => ?_)
        refine fin r2 M ?_ g2
        unfold ps_pa
        rw [if_pos q, if_pos (ps_is_iff.mpr ⟨t3, e⟩)]
        exact g1
      · have w : ¬ ps_is A N c σ = true := fun z => e (ps_is_iff.mp z).2
        rcases (by omega : r 79 ≤ c - 1 ∨ c + 1 ≤ r 79) with w2 | w2
        · exact hseg _ _ _ _ _ r M _ _ _ _ _ c5 ⟨pt_m0, pt_m3 k0 kd ⟨by show (0 : Int) ≤ r 79; omega, w2⟩, pt_m0⟩ ⟨fun _ => bad w, trivial⟩
        · exact hseg _ _ _ _ _ r M _ _ _ _ _ c6 ⟨pt_m0, pt_m3 k0 kd ⟨w2, by show r 79 ≤ 255; omega⟩, pt_m0⟩ ⟨fun _ => bad w, trivial⟩
    · have w : ¬ ps_is A N c σ = true := fun z => t3 (ps_is_iff.mp z).1
      rcases (by omega : ps_tk A N σ.1 = 0 ∨ ps_tk A N σ.1 = 1 ∨ ps_tk A N σ.1 = 2 ∨ ps_tk A N σ.1 = 4) with t | t | t | t
      · exact hseg _ _ _ _ _ r M _ _ _ _ _ c3 ⟨pt_m0, pt_mc k0 (pt_m1 ⟨by show (0 : Int) ≤ r 78; rw [a2, km.1 t]; omega, by show r 78 ≤ 2; rw [a2, km.1 t]; omega⟩), pt_m0⟩ ⟨fun _ => bad w, trivial⟩
      · exact hseg _ _ _ _ _ r M _ _ _ _ _ c3 ⟨pt_m0, pt_mc k0 (pt_m1 ⟨by show (0 : Int) ≤ r 78; rw [a2, km.2.1 t]; omega, by show r 78 ≤ 2; rw [a2, km.2.1 t]; omega⟩), pt_m0⟩ ⟨fun _ => bad w, trivial⟩
      · exact hseg _ _ _ _ _ r M _ _ _ _ _ c3 ⟨pt_m0, pt_mc k0 (pt_m1 ⟨by show (0 : Int) ≤ r 78; rw [a2, km.2.2.1 t]; omega, by show r 78 ≤ 2; rw [a2, km.2.2.1 t]; omega⟩), pt_m0⟩ ⟨fun _ => bad w, trivial⟩
      · exact hseg _ _ _ _ _ r M _ _ _ _ _ c4 ⟨pt_m0, pt_mc k0 (pt_m1 ⟨by show (4 : Int) ≤ r 78; rw [a2, km.2.2.2.2 t]; omega, by show r 78 ≤ 4; rw [a2, km.2.2.2.2 t]; omega⟩), pt_m0⟩ ⟨fun _ => bad w, trivial⟩
  · have e : ps_pa A N c σ = σ := if_neg q
    refine hseg _ _ _ _ _ r M _ _ _ _ _ c1 ⟨pt_m0, pt_m1 ⟨by show (1 : Int) ≤ r 83; omega, by show r 83 ≤ (3 : Int); omega⟩, pt_m0⟩ ⟨fun _ => ?_, trivial⟩
    exact fin r M (by rw [e]; exact hR) gb_fr.rf
noncomputable def gb_l1 (u : ai_V) : List ai_V := [wa_r 264, u]
theorem gb_nu_c : pt_row gbY 193 [56, 60] true (0, 0, 0) (gb_l1 wa_u) [] [] [(83, (0, 0)), (78, (2, 2))] [] [] [((56, 0, 0), (gb_l1 (wa_i 392), [wa_r 264]), [(392, gz_p 80)], [(0, [(0, 82, 0), (0, 81, 0), (2, 1, 0)], gz_k 5)]), ((60, 0, 0), (gb_l1 wa_u, [wa_i 80]), gb_bad 2, [(0, gz_k 6, [(0, 82, 0), (0, 81, 0), (2, 1, 0)])])] = true ∧
    pt_row gbY 193 [60] false (59, 0, 0) (gb_l1 (wa_i 392)) [] [] [] [] [] [((60, 0, 0), (gb_l1 wa_u, [wa_i 392]), [], [])] = true ∧ (cy_vk 193 56 188 gbY.2.1 [wa_r 264] [wa_r 264] [] && pt_cck gbY 193 188 (56, 0, 0) 0 471 (gb_l1 (wa_i 392)) [] [wa_r 264] [wa_r 264]) = true ∧ pt_is 5 193 60 = true ∧ (ct_mt 193).2.2.1 = 2 := by decide +kernel
/-- a number that is there -/
theorem gb_nM {A : Nat → Int} {N n : Nat} {σ : ps_S} (hn : 7 ≤ n) (q : σ.2.2.1 = 0) (hz : σ.1 ≤ N) (t1 : ps_tk A N σ.1 = 1) : pt_Met (n + 1) 193 gbY [wa_r 264] (fun r M => gb_R A N σ r M) (fun r M r2 M2 o => (∃ v, o = some v ∧ (0 ≤ ps_vl A N σ.1 → v = ps_vl A N σ.1)) ∧ gb_R A N (if ps_vl A N σ.1 < 0 then ps_fl A N 2 σ else ps_av A N σ) r2 M2 ∧ gb_fr r M r2 M2) 1 := by
  refine pt_intro (L0 := gb_l1 wa_u) (gb_b0 193 (by decide)).2 (by omega) gbsys (by
    rw [gb_nu_c.2.2.2.2]
    rfl) (fun P r M h hp => ?_)
  have h' := h
  obtain ⟨hseg, henv, -, -, -, -, -, -, -, -, hret, -⟩ := h'
  have hR : gb_R A N σ r M := hp
  obtain ⟨h1, ⟨h2, h3, h4, h4'⟩, h5⟩ := id hR
  obtain ⟨⟨⟨a1, a2, a3, a4⟩, a5, a6⟩, a7⟩ := h5 q
  obtain ⟨c1, c2, c3, c4, -⟩ := gb_nu_c
  have hA := h1.2.1
  have nd := ps_nvd hA hz t1
  have s1 := ps_st_le (A := A) hz
  have en := ps_en_le hA hz (by omega : ps_tk A N σ.1 ≠ 0)
  have N2 := hA.1
  have vd : pt_v r [(0, 82, 0), (0, 81, 0), (2, 1, 0)] = ((ps_en A N σ.1 - ps_st A N σ.1 : Nat) : Int) := by
    show ai_op 1 (r 82) (r 81) = _
    rw [a1, a4, wq_o1 (by omega) (by omega)]
    omega
  refine hseg _ _ _ _ _ r M _ _ _ _ _ c1 ⟨pt_m0, pt_mc ⟨by show (0 : Int) ≤ r 83; omega, by show r 83 ≤ 0; omega⟩ (pt_m1 ⟨by show (2 : Int) ≤ r 78; rw [a2, gb_km_v.2.1 t1]; omega, by show r 78 ≤ 2; rw [a2, gb_km_v.2.1 t1]; omega⟩), pt_m0⟩ ⟨fun g => ?_, fun g => ?_, trivial⟩
  · have g1 : pt_v r [(0, 82, 0), (0, 81, 0), (2, 1, 0)] ≤ 5 := g.1
    rw [vd] at g1
    obtain ⟨v1, v2, v3⟩ := nd.1 (by omega)
    obtain ⟨r1, hr1⟩ : ∃ r1, r1 = pt_up r [(392, gz_p 80)] := ⟨_, rfl⟩
    show P (56, 0, 0) (gb_l1 (wa_i 392)) (wa_r 264 :: []) (pt_up r [(392, gz_p 80)]) M
    rw [← hr1]
    have n1 : ∀ t, t ≠ 392 → r1 t = r t := fun t x => by
      rw [hr1]
      exact if_neg x
    have b1 : r1 392 = ps_vl A N σ.1 := by
      rw [hr1]
      exact a6 t1 v2
    refine gb_useA h (by omega) c3 (gb_R_c (fun t ht => n1 t (by omega)) hR) hz q (fun r2 g1 g2 g3 => ?_)
    refine hseg _ _ _ _ _ r2 M _ _ _ _ _ c2 ⟨pt_m0, pt_m0, pt_m0⟩ ⟨fun _ => ?_, trivial⟩
    show P (60, 0, 0) (gb_l1 wa_u) [.inl (392, 0)] r2 M
    refine hret (60, 0, 0) _ (392, 0) r2 M rfl c4 (by decide +kernel) (by decide +kernel) ⟨⟨_, rfl, fun _ => ?_⟩, ?_, gb_fr.cl (fun t ht => n1 t (by omega)) g2⟩
    · show r2 392 + 0 = _
      rw [g3 _ (by omega), b1, Int.add_zero]
    · rw [if_neg (by omega)]
      exact g1
  · have g1 : 6 ≤ pt_v r [(0, 82, 0), (0, 81, 0), (2, 1, 0)] := g.1
    rw [vd] at g1
    have v1 := nd.2 (by omega)
    obtain ⟨b1, b2, b3⟩ := gb_R_bad (k := 2) (by omega) hR q rfl
    show P (60, 0, 0) (gb_l1 wa_u) [.inl (80, 0)] (pt_up r (gb_bad 2)) M
    refine hret (60, 0, 0) _ (80, 0) _ M rfl c4 (by decide +kernel) (by decide +kernel) ⟨⟨_, rfl, fun w => by omega⟩, ?_, b2⟩
    rw [if_pos (by omega)]
    exact b1
/-- words -/
noncomputable def ps_wc (k : Nat) : Int := [-1, -2, -3, -4, -5, -12, -13, -14, -15, -16].getD k 0
noncomputable def ps_wf (A : Nat → Int) (s e : Nat) : List Nat → Int
  | [] => -17
  | k :: l => if ps_m A k s e = true then ps_wc k else ps_wf A s e l
theorem ps_wd_f {A : Nat → Int} {s e : Nat} : ps_wd A s e = ps_wf A s e [0, 1, 2, 3, 4, 8, 9, 5, 6, 7] := rfl
theorem ps_m_u {A : Nat → Int} {k k' s e : Nat} (hk : k < 10) (hk' : k' < 10) (h : ps_m A k s e = true) (h' : ps_m A k' s e = true) : k = k' := by
  obtain ⟨a1, a2⟩ := ps_m_iff.mp h
  obtain ⟨b1, b2⟩ := ps_m_iff.mp h'
  have g : (List.range 10).all (fun k => (List.range 10).all (fun k' => Nat.beq k k' || (!(Nat.beq (rd_n k) (rd_n k')) || (List.range (rd_n k)).any (fun j => !(ai_eq (ps_ch k j) (ps_ch k' j)))))) = true := by decide +kernel
  have g := List.all_eq_true.mp (List.all_eq_true.mp g k (List.mem_range.mpr hk)) k' (List.mem_range.mpr hk')
  rw [Bool.or_eq_true, Bool.or_eq_true] at g
  rcases g with g | g | g
  · exact Nat.eq_of_beq_eq_true g
  · have : Nat.beq (rd_n k) (rd_n k') = true := by
      rw [← a1, ← b1]
      exact Nat.beq_refl _
    rw [this] at g
    cases g
  · obtain ⟨j, j1, j2⟩ := List.any_eq_true.mp g
    have j1 := List.mem_range.mp j1
    have e1 : ps_ch k j = ps_ch k' j := (a2 j j1).symm.trans (b2 j (by omega))
    rw [e1] at j2
    have : ai_eq (ps_ch k' j) (ps_ch k' j) = true := ai_eq_iff.mpr rfl
    rw [this] at j2
    cases j2
theorem ps_wf_in {A : Nat → Int} {k s e : Nat} (hk : k < 10) (h : ps_m A k s e = true) : ∀ {l : List Nat}, (∀ z ∈ l, z < 10) → k ∈ l → ps_wf A s e l = ps_wc k
  | [], _, h => by cases h
  | z :: l, hl, hm => by
    unfold ps_wf
    by_cases c : ps_m A z s e = true
    · rw [if_pos c, ps_m_u (hl z List.mem_cons_self) hk c h]
    · rw [if_neg c]
      rcases List.mem_cons.mp hm with rfl | hm
      · exact absurd h c
      · exact ps_wf_in hk h (fun z hz => hl z (List.mem_cons_of_mem _ hz)) hm
theorem ps_wf_of {A : Nat → Int} {s e : Nat} : ∀ {l : List Nat}, ps_wf A s e l = -17 ∨ ∃ z ∈ l, ps_m A z s e = true ∧ ps_wf A s e l = ps_wc z
  | [] => Or.inl rfl
  | z :: l => by
    unfold ps_wf
    by_cases c : ps_m A z s e = true
    · rw [if_pos c]
      exact Or.inr ⟨z, List.mem_cons_self, c, rfl⟩
    · rw [if_neg c]
      rcases ps_wf_of (l := l) with h | ⟨y, y1, y2⟩
      · exact Or.inl h
      · exact Or.inr ⟨y, List.mem_cons_of_mem _ y1, y2⟩
theorem ps_wc_u : (List.range 10).all (fun k => !(ai_eq (ps_wc k) (-17)) && (List.range 10).all (fun z => Nat.beq k z || !(ai_eq (ps_wc k) (ps_wc z)))) = true := by decide +kernel
theorem ps_wdk {A : Nat → Int} {k s e : Nat} (hk : k < 10) : ps_m A k s e = true ↔ ps_wd A s e = ps_wc k := by
  have l10 : ∀ z ∈ [0, 1, 2, 3, 4, 8, 9, 5, 6, 7], z < 10 := by decide
  have m10 : k ∈ [0, 1, 2, 3, 4, 8, 9, 5, 6, 7] := by
    simp only [List.mem_cons, List.not_mem_nil, or_false]
    omega
  rw [ps_wd_f]
  refine ⟨fun h => ps_wf_in hk h l10 m10, fun h => ?_⟩
  have u := List.all_eq_true.mp ps_wc_u k (List.mem_range.mpr hk)
  rw [Bool.and_eq_true] at u
  rcases ps_wf_of (A := A) (s := s) (e := e) (l := [0, 1, 2, 3, 4, 8, 9, 5, 6, 7]) with w | ⟨z, z1, z2, z3⟩
  · rw [w] at h
    rw [← h] at u
    cases u.1
  · have v := List.all_eq_true.mp u.2 z (List.mem_range.mpr (l10 z z1))
    rw [← h, z3, Bool.or_eq_true] at v
    rcases v with v | v
    · rw [Nat.eq_of_beq_eq_true v]
      exact z2
    · have : ai_eq (ps_wc z) (ps_wc z) = true := ai_eq_iff.mpr rfl
      rw [this] at v
      cases v
section GBW
variable {n mi : Nat} {rt : Nat} {Z : (Nat → Int) → (Nat → Nat → Int) → Option Int → Prop} {P : pt_P} {A : Nat → Int} {N : Nat} {σ : ps_S} {r : Nat → Int} {M : Nat → Nat → Int} {pc k : Nat} {L S' : List ai_V}
/-- a call of is -/
theorem gb_icall (h : pt_Cl n mi gbY rt Z P) (hn : 5 ≤ n) (hk : k < 10) (hck : (cy_vk mi pc 191 gbY.2.1 (rd_ref (k + 1) :: wa_r 264 :: S') [wa_r 264, rd_ref (k + 1)] S' && pt_cck gbY mi 191 (pc, 0, 0) 1 471 L S' [wa_r 264, rd_ref (k + 1)] [wa_r 264, rd_ref (k + 1)]) = true) (hR : gb_R A N σ r M) (hz : ga_Zs N σ)
    (ky : σ.2.2.1 = 0 → ps_iw A N (ps_wc k) σ = true → ∀ r2, r2 471 = 1 → (∀ t, t ≠ 471 → r2 t = r t) → P (pc + 3, 0, 0) L (wa_i 471 :: S') r2 M)
    (kn : ¬ (σ.2.2.1 = 0 ∧ ps_iw A N (ps_wc k) σ = true) → ∀ r2, r2 471 = 0 → (∀ t, t ≠ 471 → r2 t = r t) → P (pc + 3, 0, 0) L (wa_i 471 :: S') r2 M) : P (pc, 0, 0) L (rd_ref (k + 1) :: wa_r 264 :: S') r M := by
  obtain ⟨n, rfl⟩ : ∃ m, n = m + 1 := ⟨n - 1, by omega⟩
  obtain ⟨h1, ⟨h2, h3, h4⟩, h5⟩ := id hR
  have tk1 : σ.2.2.1 = 0 → (r 78 = 1 ↔ ps_tk A N σ.1 = 2) := fun q => by
    obtain ⟨⟨⟨a1, a2, a3, a4⟩, -⟩, -⟩ := h5 q
    have t4 := ps_tk4 (A := A) (n := N) (p := σ.1)
    have km := gb_km_v (t := ps_tk A N σ.1)
    rw [a2]
    rcases (by omega : ps_tk A N σ.1 = 0 ∨ ps_tk A N σ.1 = 1 ∨ ps_tk A N σ.1 = 2 ∨ ps_tk A N σ.1 = 3 ∨ ps_tk A N σ.1 = 4) with t | t | t | t | t
    · rw [km.1 t]; omega
    · rw [km.2.1 t]; omega
    · rw [km.2.2.1 t]; omega
    · rw [km.2.2.2.1 t]; omega
    · rw [km.2.2.2.2 t]; omega
  have hv : gb_iv A k r = if σ.2.2.1 = 0 ∧ ps_iw A N (ps_wc k) σ = true then 1 else 0 := by
    unfold gb_iv
    by_cases q : σ.2.2.1 = 0
    · obtain ⟨⟨⟨a1, a2, a3, a4⟩, -⟩, -⟩ := h5 q
      have e1 : (r 81).toNat = ps_st A N σ.1 := by omega
      have e2 : (r 82).toNat = ps_en A N σ.1 := by omega
      by_cases t : ps_tk A N σ.1 = 2
      · have vw : ps_vl A N σ.1 = ps_wd A (ps_st A N σ.1) (ps_en A N σ.1) := (if_neg (by omega)).trans (if_pos t)
        by_cases w : ps_m A k (ps_st A N σ.1) (ps_en A N σ.1) = true
        · rw [e1, e2, if_pos ⟨⟨by omega, (tk1 q).mpr t⟩, w⟩, if_pos ⟨q, ps_iw_iff.mpr ⟨t, vw.trans ((ps_wdk hk).mp w)⟩⟩]
        · rw [e1, e2, if_neg (fun z => w z.2), if_neg (fun z => w ((ps_wdk hk).mpr (vw.symm.trans (ps_iw_iff.mp z.2).2)))]
      · rw [if_neg (fun z => t ((tk1 q).mp z.1.2)), if_neg (fun z => t (ps_iw_iff.mp z.2).1)]
    · rw [if_neg (fun z => by have := z.1.1; omega), if_neg (fun z => q z.1)]
  refine gz_cv (Pre := gb_iP A N) (v := gb_iv A k) h (gb_b0 191 (by decide)).1 (show 391 ≤ 471 by omega) (gb_b0 191 (by decide)).2 hck (gb_iM (A := A) (N := N) (by omega) hk) (show gb_iP A N r M from ⟨h1, fun q t => ?_⟩) (fun t ht => rfl) ?_
  · have q : σ.2.2.1 = 0 := by omega
    obtain ⟨⟨⟨a1, a2, a3, a4⟩, -⟩, -⟩ := h5 q
    have t2 := (tk1 q).mp t
    have en := ps_en_le h1.2.1 (hz q).1 (by omega : ps_tk A N σ.1 ≠ 0)
    omega
  · show P (pc + 3, 0, 0) L (wa_i 471 :: S') (pt_set r 471 (gb_iv A k r)) M
    rw [hv]
    by_cases c : σ.2.2.1 = 0 ∧ ps_iw A N (ps_wc k) σ = true
    · rw [if_pos c]
      exact ky c.1 c.2 _ gz_sset (fun t ht => if_neg ht)
    · rw [if_neg c]
      exact kn c _ gz_sset (fun t ht => if_neg ht)
end GBW
