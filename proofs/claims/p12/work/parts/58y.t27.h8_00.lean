/-! TEXTS (the reference): readPart -/
theorem gb_mrg1 {r r2 : Nat → Int} {v : Int} : (pt_mrg 391 r r2 471 (some v)) 471 = v ∧ (∀ t, t < 391 → (pt_mrg 391 r r2 471 (some v)) t = r2 t) ∧ ∀ t, 391 ≤ t → t ≠ 471 → (pt_mrg 391 r r2 471 (some v)) t = r t := by
  refine ⟨?_, fun t ht => if_pos ht, fun t h1 h2 => ?_⟩
  · show (if 471 < 391 then _ else if 471 = 471 then v else r 471) = v
    rw [if_neg (by omega), if_pos rfl]
  · show (if t < 391 then r2 t else if t = 471 then v else r t) = r t
    rw [if_neg (by omega), if_neg h2]
theorem gb_Rl_R {A : Nat → Int} {N : Nat} {σ : ps_S} {l : List Int} {r : Nat → Int} {M : Nat → Nat → Int} (h : gb_Rl A N σ l r M) (e : σ.2.2.1 = 0 → l = gb_cs σ.2.1) : gb_R A N σ r M := ⟨h.1, h.2.1, fun k => by
  rw [← e k]
  exact h.2.2 k⟩
theorem gb_R_Rl {A : Nat → Int} {N : Nat} {σ : ps_S} {r : Nat → Int} {M : Nat → Nat → Int} (h : gb_R A N σ r M) : gb_Rl A N σ (gb_cs σ.2.1) r M := h
/-- a part, where what stands in parentheses is read as E -/
theorem gb_qM {A : Nat → Int} {N n : Nat} {E : ps_S → ps_S} {a : Int} {σ : ps_S} (hn : 9 ≤ n) (hok : ∀ τ, ps_ok N τ (E τ)) (hE : σ.2.2.1 = 0 → (0 ≤ a ∧ a ≤ 5) ∧ ∀ τ, gb_K n 201 A N τ (E τ) (a + 1)) : gb_K (n + 1) 196 A N σ (ps_pt A N E σ) a := by
  obtain ⟨n, rfl⟩ : ∃ m, n = m + 1 := ⟨n - 1, by omega⟩
  refine pt_intro (L0 := gb_q wa_u) (gb_b0 196 (by decide)).2 (by omega) gbsys (by
    rw [gb_q_k.2.2.2.2.2]
    rfl) (fun P r M h hp => ?_)
  have h' := h
  obtain ⟨hseg, henv, -, -, -, -, -, -, hcall, -, -, -, -, hvret⟩ := h'
  obtain ⟨⟨hR, hz⟩, ha⟩ := hp
  obtain ⟨c1, ⟨c2, c3, c4⟩, ⟨c5, c6, c7, c8⟩, ⟨c9, c10, c11⟩, ⟨c12, c13, c14, c15, c16⟩, c17, c18, c19⟩ := gb_q_c
  obtain ⟨⟨k1, k2⟩, ⟨k3, k4⟩, ⟨k5, k6, k7⟩, ⟨k8, k9⟩, ⟨i1, i2⟩, -⟩ := gb_q_k
  obtain ⟨h1, ⟨h2, h3, h4, h4'⟩, h5⟩ := id hR
  have hA := h1.2.1
  refine henv _ _ _ _ _ (fun hEE _ => ?_)
  have h00 : r 0 = 0 := hEE.1
  have fin : ∀ L r2 M2, gb_R A N (ps_pt A N E σ) r2 M2 → gb_fr r M r2 M2 → P (113, 0, 0) L [] r2 M2 := fun L r2 M2 g1 g2 => hvret (113, 0, 0) _ r2 M2 rfl i2 (Nat.ble_eq_true_of_le (Nat.zero_le _)) (Nat.ble_eq_true_of_le (Nat.zero_le _)) ⟨rfl, g1, g2⟩
  by_cases q : σ.2.2.1 = 0
  · obtain ⟨ha5, hE⟩ := hE q
    have k0 : (0 : Int) ≤ r 83 ∧ r 83 ≤ 0 := by omega
    obtain ⟨⟨⟨a1, a2, a3, a4⟩, a5, a6⟩, a7, a8⟩ := h5 q
    obtain ⟨z1, z2⟩ := hz q
    have t4 := ps_tk4 (A := A) (n := N) (p := σ.1)
    have n200 := hA.1
    have km := gb_km_v (t := ps_tk A N σ.1)
    have bad : ps_pt A N E σ = ps_fl A N 1 σ → P (113, 0, 0) (gb_q wa_u) [] (pt_up r (gb_bad 1)) M := fun eq => by
      obtain ⟨g1, g2, -⟩ := gb_R_bad (k := 1) (by omega) hR q rfl
      exact fin _ _ M (by rw [eq]; exact g1) g2
    by_cases t3 : ps_tk A N σ.1 = 3
    · have vl := a5 t3
      have rg := (ps_vl_rg hA σ.1).1 t3
      have kd : (3 : Int) ≤ r 78 ∧ r 78 ≤ 3 := by rw [a2, km.2.2.2.1 t3]; omega
      by_cases e : ps_vl A N σ.1 = 40
      · have is40 := ps_is_iff.mpr ⟨t3, e⟩
        have eq : ps_pt A N E σ = ps_pa A N 41 (E (ps_av A N σ)) := by
          unfold ps_pt
          rw [if_pos q, if_pos is40]
        refine hseg _ _ _ _ _ r M _ _ _ _ _ c4 ⟨pt_m0, pt_m3 k0 kd ⟨by show (40 : Int) ≤ r 79; omega, by show r 79 ≤ 40; omega⟩, pt_m0⟩ ⟨fun _ => ?_, trivial⟩
        show P (89, 0, 0) (gb_q wa_u) (wa_r 264 :: []) r M
        refine gb_useA h (by omega) k3 hR z1 q (fun r2 g1 g2 g3 => ?_)
        have b12 : r2 392 = a := (g3 _ (by omega)).trans ha
        have zav := ga_Zs_ok (ps_o1_ok (ps_o1_av (σ := σ) hA (by omega))) hz
        refine hseg _ _ _ _ _ r2 M _ _ _ _ _ c17 ⟨pt_m0, pt_m1 ⟨by show (0 : Int) ≤ r2 392; omega, by show r2 392 ≤ (5 : Int); omega⟩, pt_m0⟩ ⟨fun _ => ?_, trivial⟩
        show P (96, 0, 0) (gb_q wa_u) (.inl (392, 1) :: wa_r 264 :: []) r2 M
        refine gb_use h (gb_b0 201 (by decide)) k8 (hE _) g1 zav (by show r2 392 + 1 = a + 1; omega) (fun r3 M3 g4 g5 g6 => ?_)
        refine hseg _ _ _ _ _ r3 M3 _ _ _ _ _ c18 ⟨pt_m0, pt_m0, pt_m0⟩ ⟨fun _ => ?_, trivial⟩
        refine henv _ _ _ _ _ (fun hE3 _ => ?_)
        have z3 : r3 0 = 0 := hE3.1
        show P (102, 0, 0) (gb_q wa_u) (.inl (0, 41) :: wa_r 264 :: []) r3 M3
        refine gb_use h (gb_b0 192 (by decide)) k9 (gb_pM (A := A) (N := N) (σ := E (ps_av A N σ)) (c := 41) (by omega) (Or.inl rfl)) g4 (ga_Zs_ok (hok _) zav) (by show r3 0 + 41 = 41; omega) (fun r4 M4 g7 g8 _ => ?_)
        refine hseg _ _ _ _ _ r4 M4 _ _ _ _ _ c19 ⟨pt_m0, pt_m0, pt_m0⟩ ⟨fun _ => ?_, trivial⟩
        exact fin _ r4 M4 (by rw [eq]; exact g7) ((g2.tr g5).tr g8)
      · have n40 : ¬ ps_is A N 40 σ = true := fun z => e (ps_is_iff.mp z).2
        have eq : ps_pt A N E σ = ps_fl A N 1 σ := by
          unfold ps_pt
          rw [if_pos q, if_neg n40, if_neg (by omega), if_neg (by omega), if_neg (by omega)]
        rcases (by omega : r 79 ≤ 39 ∨ 41 ≤ r 79) with w | w
        · exact hseg _ _ _ _ _ r M _ _ _ _ _ c5 ⟨pt_m0, pt_m3 k0 kd ⟨by show (0 : Int) ≤ r 79; omega, w⟩, pt_m0⟩ ⟨fun _ => bad eq, trivial⟩
        · exact hseg _ _ _ _ _ r M _ _ _ _ _ c6 ⟨pt_m0, pt_m3 k0 kd ⟨w, by show r 79 ≤ (255 : Int); omega⟩, pt_m0⟩ ⟨fun _ => bad eq, trivial⟩
    have n40 : ¬ ps_is A N 40 σ = true := fun z => t3 (ps_is_iff.mp z).1
    by_cases t1 : ps_tk A N σ.1 = 1
    · have kd : (2 : Int) ≤ r 78 ∧ r 78 ≤ 2 := by rw [a2, km.2.1 t1]; omega
      have en := ps_en_le hA z1 (by omega : ps_tk A N σ.1 ≠ 0)
      have s1 := ps_st_le (A := A) z1
      refine hseg _ _ _ _ _ r M _ _ _ _ _ c2 ⟨pt_m0, pt_mc k0 (pt_m1 kd), pt_m0⟩ ⟨fun _ => ?_, trivial⟩
      show P (17, 0, 0) (gb_q wa_u) (wa_r 264 :: []) r M
      have ck := k1
      unfold gb_cr at ck
      rw [Bool.and_eq_true] at ck
      refine hcall (17, 0, 0) _ _ _ _ _ r M 193 1 471 _ _ (gb_b0 193 (by decide)).2 ck.1 ck.2 (gb_nM (A := A) (N := N) (σ := σ) (by omega) q z1 t1) hR (fun r2 M2 o hq => ?_)
      obtain ⟨⟨v, rfl, hv⟩, g1, g2⟩ := hq
      have g2 : gb_fr r M r2 M2 := g2
      obtain ⟨rc1, rc2⟩ := wa_rm (n := n + 1) (gb_b0 193 (by decide)).1
      rw [rc1, rc2]
      obtain ⟨m1, m2, m3⟩ := gb_mrg1 (r := r) (r2 := r2) (v := v)
      obtain ⟨r3, hr3⟩ : ∃ r3, r3 = pt_mrg 391 r r2 471 (some v) := ⟨_, rfl⟩
      rw [← hr3] at m1 m2 m3
      show P (20, 0, 0) (gb_q wa_u) [wa_i 471] (pt_mrg 391 r r2 471 (some v)) M2
      rw [← hr3]
      refine hseg _ _ _ _ _ r3 M2 _ _ _ _ _ c9 ⟨pt_m0, pt_m0, pt_m0⟩ ⟨fun _ => ?_, trivial⟩
      obtain ⟨r4, hr4⟩ : ∃ r4, r4 = pt_up r3 [(393, gz_p 471)] := ⟨_, rfl⟩
      show P (23, 0, 0) (gb_q (wa_i 393)) (.inl (0, 0) :: wa_r 264 :: []) (pt_up r3 [(393, gz_p 471)]) M2
      rw [← hr4]
      have n4 : ∀ t, t ≠ 393 → r4 t = r3 t := fun t x => by
        rw [hr4]
        exact if_neg x
      have b4 : r4 393 = v := by
        rw [hr4]
        exact m1
      obtain ⟨σ', hσ'⟩ : ∃ σ', σ' = (if ps_vl A N σ.1 < 0 then ps_fl A N 2 σ else ps_av A N σ) := ⟨_, rfl⟩
      rw [← hσ'] at g1
      have g4 : gb_R A N σ' r4 M2 := gb_R_c (fun t ht => (n4 t (by omega)).trans (m2 t ht)) g1
      have cs' : σ'.2.1 = σ.2.1 := by
        rw [hσ']
        split
        · unfold ps_fl
          rw [if_pos q]
        · rfl
      have cl := gb_cs_l (l := σ.2.1)
      refine henv _ _ _ _ _ (fun hE4 _ => ?_)
      have z4 : r4 0 = 0 := hE4.1
      refine gb_useEl (c := 0) h (by omega) k5 (gb_R_Rl g4) (fun _ => by rw [cs']; omega) (by show r4 0 + 0 = 0; omega) (fun r5 M5 d1 d2 d3 => ?_)
      refine hseg _ _ _ _ _ r5 M5 _ _ _ _ _ c10 ⟨pt_m0, pt_m0, pt_m0⟩ ⟨fun _ => ?_, trivial⟩
      show P (28, 0, 0) (gb_q (wa_i 393)) (.inl (393, 0) :: wa_r 264 :: []) r5 M5
      refine gb_useEl (c := v) h (by omega) k6 d1 (fun _ => by rw [List.length_append, List.length_singleton, cs']; omega) (by show r5 393 + 0 = v; rw [d3 _ (by omega) (by omega), b4, Int.add_zero]) (fun r6 M6 d4 d5 d6 => ?_)
      refine hseg _ _ _ _ _ r6 M6 _ _ _ _ _ c11 ⟨pt_m0, pt_m0, pt_m0⟩ ⟨fun _ => ?_, trivial⟩
      refine fin _ r6 M6 ?_ ((gb_fr.tr (g2.cg (fun t ht => (n4 t (by omega)).trans (m2 t ht))) d2).tr d5)
      by_cases w : ps_vl A N σ.1 < 0
      · have eq : ps_pt A N E σ = ps_fl A N 2 σ := by
          unfold ps_pt
          rw [if_pos q, if_neg n40, if_pos ⟨t1, w⟩]
        have es : σ' = ps_fl A N 2 σ := hσ'.trans (if_pos w)
        rw [eq]
        rw [es] at d4
        refine gb_Rl_R d4 (fun k => ?_)
        unfold ps_fl at k
        rw [if_pos q] at k
        have k : (2 : Int) = 0 := k
        omega
      · have eq : ps_pt A N E σ = ps_av A N (ps_em (ps_vl A N σ.1) σ) := by
          unfold ps_pt
          rw [if_pos q, if_neg n40, if_neg (fun z => w z.2), if_neg (by omega), if_pos (Or.inl t1)]
        have es : σ' = ps_av A N σ := hσ'.trans (if_neg w)
        have ev := hv (by omega)
        rw [es, ev] at d4
        rw [eq]
        have ec : (gb_cs (ps_av A N σ).2.1 ++ [0]) ++ [ps_vl A N σ.1] = gb_cs (σ.2.1 ++ [ps_vl A N σ.1]) := by
          rw [gb_cs_a, List.append_assoc]
          have : gb_enc (ps_vl A N σ.1) = [0, ps_vl A N σ.1] := if_pos (by omega)
          rw [this]
          rfl
        rw [ec] at d4
        exact ⟨d4.1, d4.2.1, d4.2.2⟩
    by_cases t2 : ps_tk A N σ.1 = 2
    · have kd : (1 : Int) ≤ r 78 ∧ r 78 ≤ 1 := by rw [a2, km.2.2.1 t2]; omega
      have rg := (ps_vl_rg hA σ.1).2 t2
      have en := ps_en_le hA z1 (by omega : ps_tk A N σ.1 ≠ 0)
      have s1 := ps_st_le (A := A) z1
      refine hseg _ _ _ _ _ r M _ _ _ _ _ c3 ⟨pt_m0, pt_mc k0 (pt_m1 kd), pt_m0⟩ ⟨fun _ => ?_, trivial⟩
      show P (43, 0, 0) (gb_q wa_u) (wa_r 264 :: []) r M
      refine gz_cv (Pre := fun r M => gb_R A N σ r M ∧ ga_Zs N σ) (v := fun _ => gb_vv (ps_vl A N σ.1)) h gb_b5.1 (show 391 ≤ 471 by omega) gb_b5.2 k2 (gb_vM (A := A) (N := N) (σ := σ) (by omega) q t2) (show gb_R A N σ r M ∧ ga_Zs N σ from ⟨hR, hz⟩) (fun t ht => rfl) ?_
      obtain ⟨r3, hr3⟩ : ∃ r3, r3 = pt_set r 471 (gb_vv (ps_vl A N σ.1)) := ⟨_, rfl⟩
      show P (46, 0, 0) (gb_q wa_u) [wa_i 471] (pt_set r 471 (gb_vv (ps_vl A N σ.1))) M
      rw [← hr3]
      have n3 : ∀ t, t ≠ 471 → r3 t = r t := fun t x => by
        rw [hr3]
        exact if_neg x
      have s3 : r3 471 = gb_vv (ps_vl A N σ.1) := by
        rw [hr3]
        exact gz_sset
      have R3 : gb_R A N σ r3 M := gb_R_c (fun t ht => n3 t (by omega)) hR
      by_cases w : ps_vl A N σ.1 < -5
      · have eq : ps_pt A N E σ = ps_fl A N 3 σ := by
          unfold ps_pt
          rw [if_pos q, if_neg n40, if_neg (by omega), if_pos ⟨t2, w⟩]
        have vv : gb_vv (ps_vl A N σ.1) = -1 := if_neg (by omega)
        refine hseg _ _ _ _ _ r3 M _ _ _ _ _ c12 ⟨pt_m0, pt_mc ⟨by show (-1 : Int) ≤ r3 471; omega, by show r3 471 ≤ -1; omega⟩ (pt_m1 ⟨by show (0 : Int) ≤ r3 83; rw [n3 _ (by omega)]; omega, by show r3 83 ≤ 0; rw [n3 _ (by omega)]; omega⟩), pt_m0⟩ ⟨fun _ => ?_, trivial⟩
        obtain ⟨r4, hr4⟩ : ∃ r4, r4 = pt_up r3 ((393, gz_p 471) :: gb_bad 3) := ⟨_, rfl⟩
        show P (62, 0, 0) (gb_q wa_u) (.inl (393, 20) :: wa_r 264 :: []) (pt_up r3 ((393, gz_p 471) :: gb_bad 3)) M
        rw [← hr4]
        obtain ⟨g1, g2, g3⟩ := gb_R_bad (k := 3) (by omega) R3 q rfl
        have e4 : ∀ t, t < 391 → r4 t = pt_up r3 (gb_bad 3) t := fun t ht => by
          rw [hr4]
          exact if_neg (by omega)
        have g1 := gb_R_c e4 g1
        have bk : (ps_fl A N 3 σ).2.2.1 = 3 := by
          unfold ps_fl
          rw [if_pos q]
        refine gb_useEl (c := r4 393 + 20) h (by omega) k7 (gb_R_Rl g1) (fun k => by rw [bk] at k; omega) rfl (fun r5 M5 d1 d2 d3 => ?_)
        have bd5 : r5 83 = 3 := d1.2.1.1.trans bk
        refine hseg _ _ _ _ _ r5 M5 _ _ _ _ _ c15 ⟨pt_m0, pt_m1 ⟨by show (1 : Int) ≤ r5 83; omega, by show r5 83 ≤ 3; omega⟩, pt_m0⟩ ⟨fun _ => ?_, trivial⟩
        refine fin _ r5 M5 ?_ (((gb_fr.cl (fun t ht => n3 t (by omega)) g2).cg e4).tr d2)
        rw [eq]
        exact gb_Rl_R d1 (fun k => by rw [bk] at k; omega)
      · have eq : ps_pt A N E σ = ps_av A N (ps_em (ps_vl A N σ.1) σ) := by
          unfold ps_pt
          rw [if_pos q, if_neg n40, if_neg (by omega), if_neg (fun z => w z.2), if_pos (Or.inr t2)]
        have vv : gb_vv (ps_vl A N σ.1) = -1 - ps_vl A N σ.1 := if_pos (by omega)
        have ec : gb_enc (ps_vl A N σ.1) = [19 - ps_vl A N σ.1] := (if_neg (by omega)).trans (if_pos (by omega))
        refine hseg _ _ _ _ _ r3 M _ _ _ _ _ c13 ⟨pt_m0, pt_m1 ⟨by show (0 : Int) ≤ r3 471; omega, by show r3 471 ≤ 4; omega⟩, pt_m0⟩ ⟨fun _ => ?_, trivial⟩
        obtain ⟨r4, hr4⟩ : ∃ r4, r4 = pt_up r3 [(393, gz_p 471)] := ⟨_, rfl⟩
        show P (62, 0, 0) (gb_q wa_u) (.inl (393, 20) :: wa_r 264 :: []) (pt_up r3 [(393, gz_p 471)]) M
        rw [← hr4]
        have n4 : ∀ t, t ≠ 393 → r4 t = r3 t := fun t x => by
          rw [hr4]
          exact if_neg x
        have b4 : r4 393 = -1 - ps_vl A N σ.1 := by
          rw [hr4]
          exact s3.trans vv
        refine gb_useE (c := ps_vl A N σ.1) h (by omega) ec k7 (gb_R_c (fun t ht => n4 t (by omega)) R3) (fun _ => by omega) (by show r4 393 + 20 = _; omega) (fun r5 M5 d1 d2 d3 => ?_)
        have bd5 : r5 83 = 0 := d1.2.1.1.trans q
        refine hseg _ _ _ _ _ r5 M5 _ _ _ _ _ c14 ⟨pt_m0, pt_m1 ⟨by show (0 : Int) ≤ r5 83; omega, by show r5 83 ≤ 0; omega⟩, pt_m0⟩ ⟨fun _ => ?_, trivial⟩
        show P (73, 0, 0) (gb_q wa_u) (wa_r 264 :: []) r5 M5
        refine gb_useA h (by omega) k4 d1 z1 q (fun r6 d4 d5 d6 => ?_)
        refine hseg _ _ _ _ _ r6 M5 _ _ _ _ _ c16 ⟨pt_m0, pt_m0, pt_m0⟩ ⟨fun _ => ?_, trivial⟩
        exact fin _ r6 M5 (by rw [eq]; exact d4) ((gb_fr.cl (fun t ht => (n4 t (by omega)).trans (n3 t (by omega))) d2).tr d5)
    have eq : ps_pt A N E σ = ps_fl A N 1 σ := by
      unfold ps_pt
      rw [if_pos q, if_neg n40, if_neg (by omega), if_neg (by omega), if_neg (by omega)]
    rcases (by omega : ps_tk A N σ.1 = 0 ∨ ps_tk A N σ.1 = 4) with w | w
    · exact hseg _ _ _ _ _ r M _ _ _ _ _ c7 ⟨pt_m0, pt_mc k0 (pt_m1 ⟨by show (0 : Int) ≤ r 78; rw [a2, km.1 w]; omega, by show r 78 ≤ (0 : Int); rw [a2, km.1 w]; omega⟩), pt_m0⟩ ⟨fun _ => bad eq, trivial⟩
    · exact hseg _ _ _ _ _ r M _ _ _ _ _ c8 ⟨pt_m0, pt_mc k0 (pt_m1 ⟨by show (4 : Int) ≤ r 78; rw [a2, km.2.2.2.2 w]; omega, by show r 78 ≤ (4 : Int); rw [a2, km.2.2.2.2 w]; omega⟩), pt_m0⟩ ⟨fun _ => bad eq, trivial⟩
  · have e : ps_pt A N E σ = σ := if_neg q
    refine hseg _ _ _ _ _ r M _ _ _ _ _ c1 ⟨pt_m0, pt_m1 ⟨by show (1 : Int) ≤ r 83; omega, by show r 83 ≤ (3 : Int); omega⟩, pt_m0⟩ ⟨fun _ => ?_, trivial⟩
    exact hvret (7, 0, 0) _ r M rfl i1 (Nat.ble_eq_true_of_le (Nat.zero_le _)) (Nat.ble_eq_true_of_le (Nat.zero_le _)) ⟨rfl, by rw [e]; exact hR, gb_fr.rf⟩
