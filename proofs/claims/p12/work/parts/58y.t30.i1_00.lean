/-! TEXTS (the reference): readNot, readAnd, readExpression -/
section GBO2
variable {A : Nat → Int} {N n : Nat} {E : ps_S → ps_S} {a : Int} {σ : ps_S}
theorem gb_neM (hn : 12 ≤ n) (hok : ∀ σ, ps_ok N σ (E σ)) (hE : σ.2.2.1 = 0 → (0 ≤ a ∧ a ≤ 5) ∧ ∀ m, n = m + 3 → ∀ τ, gb_K m 201 A N τ (E τ) (a + 1)) : gb_K (n + 1) 199 A N σ (ps_ne A N E σ) a := by
  obtain ⟨m, rfl⟩ : ∃ m, n = m + 1 := ⟨n - 1, by omega⟩
  refine pt_intro (L0 := gb_4 wa_u wa_u) (gb_b0 199 (by decide)).2 (by omega) gbsys (by
    rw [gb_l_l.2.2.1]
    rfl) (fun P r M h hp => ?_)
  have h' := h
  obtain ⟨hseg, henv, -, -, -, -, -, -, -, -, -, -, -, hvret⟩ := h'
  obtain ⟨⟨hR, hz⟩, ha⟩ := hp
  have hA := hR.1.2.1
  have N2 := hA.1
  obtain ⟨c0, -, ⟨c1, c2, c3, c4⟩, c5, -, ⟨-, -, k3, -⟩, i1, -⟩ := gb_ne_c
  have hB : ∀ τ : ps_S, (τ.2.2.1 = 0 → σ.2.2.1 = 0) → gb_K (m + 1) 198 A N τ (ps_su A N E τ) a := fun τ hq => gb_suM (by omega) hok (fun k => ⟨(hE (hq k)).1, fun j hj => (hE (hq k)).2 j (by omega)⟩)
  have okn := ps_ok_nt hA 6 σ
  have l6 := ps_nt_le (A := A) (N := N) 6 σ
  refine hseg _ _ _ _ _ r M _ _ _ _ _ c0 ⟨pt_m0, pt_m0, pt_m0⟩ ⟨fun _ => ?_, trivial⟩
  obtain ⟨r1, hr1⟩ : ∃ r1, r1 = pt_up r [(393, gz_k 0)] := ⟨_, rfl⟩
  show P (6, 0, 0) gb_n1 gb_nR (pt_up r [(393, gz_k 0)]) M
  rw [← hr1]
  have n1 : ∀ t, t ≠ 393 → r1 t = r t := fun t x => by
    rw [hr1]
    exact if_neg x
  refine gb_nl1 (r0 := r) (M0 := M) (A := A) (N := N) (a := a) h (by omega) 6 0 σ r1 M rfl (by rw [hr1]; rfl) (by rw [n1 _ (by omega), ha]) (gb_R_c (fun t ht => n1 t (by omega)) hR) hz (gb_fr.rf.cg (fun t ht => n1 t (by omega))) (fun r2 M2 e2 e1 g1 g2 => ?_) (fun r2 M2 hf g1 g2 => ?_)
  · -- sums and what stands between them
    obtain ⟨ν, hν⟩ : ∃ ν, ν = (ps_nt A N 6 σ).1 := ⟨_, rfl⟩
    obtain ⟨kn, hkn⟩ : ∃ kn, kn = (ps_nt A N 6 σ).2 := ⟨_, rfl⟩
    have eN : ps_ne A N E σ = ps_rp kn (ps_co A N E ν) := by
      rw [hν, hkn]
      rfl
    rw [← hν] at g1 okn
    rw [← hkn, Nat.zero_add] at e2
    rw [← hkn] at l6 okn
    have zn : ga_Zs N ν := fun w => by
      obtain ⟨b1, b2⟩ := okn w
      obtain ⟨z1, z2⟩ := hz b1
      have := b2 z1
      omega
    show P (36, 0, 0) gb_n1 (.inl (392, 0) :: wa_r 264 :: []) r2 M2
    refine gb_use h (gb_b0 198 (by decide)) k3 (hB ν (fun w => (okn w).1)) g1 zn (by show r2 392 + 0 = a; omega) (fun r3 M3 g4 g5 g6 => ?_)
    have oks : ps_ok N ν (ps_su A N E ν) := ps_ok_su hA hok
    have zs := ga_Zs_ok oks zn
    have b23 : r3 393 = (kn : Int) := (g6 _ (by omega) (by omega)).trans e2
    have b13 : r3 392 = a := (g6 _ (by omega) (by omega)).trans e1
    have fr3 := g2.tr g5
    -- the nots' codes
    have tail : ∀ (υ : ps_S) (r4 : Nat → Int) (M4 : Nat → Nat → Int), υ = ps_co A N E ν → r4 393 = (kn : Int) → gb_R A N υ r4 M4 → gb_fr r M r4 M4 → P (89, 0, 0) gb_n2 [] (pt_up r4 [(394, gz_k 0)]) M4 := fun υ r4 M4 eq b4 g7 g8 => by
      subst eq
      obtain ⟨r5, hr5⟩ : ∃ r5, r5 = pt_up r4 [(394, gz_k 0)] := ⟨_, rfl⟩
      rw [← hr5]
      have n5 : ∀ t, t ≠ 394 → r5 t = r4 t := fun t x => by
        rw [hr5]
        exact if_neg x
      refine gb_nl2 (r0 := r) (M0 := M) (A := A) (N := N) (τ := ps_ne A N E σ) h (by omega) (fun r6 M6 b1 b2 => ⟨rfl, b1, b2⟩) kn 0 kn (ps_co A N E ν) r5 M4 (by omega) l6 (by rw [hr5]; rfl) ((n5 _ (by omega)).trans b4) (gb_R_c (fun t ht => n5 t (by omega)) g7) (fun w => ?_) (g8.cg (fun t ht => n5 t (by omega))) eN.symm
      obtain ⟨d1, d2⟩ := ps_ok_co hA hok w
      obtain ⟨b1, b2⟩ := okn d1
      obtain ⟨z1, z2⟩ := hz b1
      have x1 := b2 z1
      have x2 := d2 x1.2.1
      omega
    obtain ⟨h1, ⟨h2, h3, h4, h4'⟩, h5⟩ := id g4
    by_cases w : (ps_su A N E ν).2.2.1 = 0 ∧ ps_og A N 3 [(60, -10), (61, -11)] (ps_su A N E ν) ≠ 0
    · obtain ⟨q, hq, ⟨qt, qv⟩, qo⟩ := ps_og_in w.2
      obtain ⟨⟨⟨a1, a2, a3, a4⟩, a5, a6⟩, a7⟩ := h5 w.1
      obtain ⟨t3, -, -⟩ := gb_tkr a2
      have vl := a5 qt
      have z1 := (zs w.1).1
      have ck5 := List.all_eq_true.mp c5 q hq
      unfold gb_nt at ck5
      simp only [Bool.and_eq_true] at ck5
      obtain ⟨⟨d1, d2, d3⟩, d5, d6, d7, d4, d8, d9⟩ := ck5
      have d8 := ai_le_iff.mp d8
      have d9 := ai_le_iff.mp d9
      have q0 : σ.2.2.1 = 0 := (okn (oks w.1).1).1
      have oav := ps_o1_av (σ := ps_su A N E ν) hA (by omega)
      have zav := ga_Zs_ok (ps_o1_ok oav) zs
      refine hseg _ _ _ _ _ r3 M3 _ _ _ _ _ d1 ⟨pt_m0, pt_m3 (by show (0 : Int) ≤ r3 83 ∧ r3 83 ≤ 0; omega) (t3 qt) ⟨by show q.1 ≤ r3 79; omega, by show r3 79 ≤ q.1; omega⟩, pt_m0⟩ ⟨fun _ => ?_, trivial⟩
      show P (74, 0, 0) (gb_nc (-5 - q.2)) (wa_r 264 :: []) r3 M3
      refine gb_useA h (by omega) d5 g4 z1 w.1 (fun r4 f1 f2 f3 => ?_)
      refine hseg _ _ _ _ _ r4 M3 _ _ _ _ _ d2 ⟨pt_m0, pt_m0, pt_m0⟩ ⟨fun _ => ?_, trivial⟩
      show P (79, 0, 0) (gb_nc (-5 - q.2)) (.inl (392, 0) :: wa_r 264 :: []) r4 M3
      refine gb_use h (gb_b0 198 (by decide)) d6 (hB _ (fun _ => q0)) f1 zav (by show r4 392 + 0 = a; rw [f3 _ (by omega), b13, Int.add_zero]) (fun r5 M5 f4 f5 f6 => ?_)
      refine hseg _ _ _ _ _ r5 M5 _ _ _ _ _ d3 ⟨pt_m0, pt_m0, pt_m0⟩ ⟨fun _ => ?_, trivial⟩
      refine henv _ _ _ _ _ (fun hE5 _ => ?_)
      have z5 : r5 0 = 0 := hE5.1
      show P (84, 0, 0) (gb_nc (-5 - q.2)) (.inl (0, -5 - q.2) :: wa_r 264 :: []) r5 M5
      have o1 := ps_o1_tr oav (ps_ok_su (σ := ps_av A N (ps_su A N E ν)) hA hok)
      have ec : gb_enc q.2 = [-5 - q.2] := (if_neg (by omega)).trans ((if_neg (by omega)).trans (if_pos (by omega)))
      refine gb_useE (c := q.2) h (by omega) ec d7 f4 (fun k => ?_) (by show r5 0 + (-5 - q.2) = -5 - q.2; omega) (fun r6 M6 f7 f8 f9 => ?_)
      · obtain ⟨w1, w2⟩ := o1 k
        obtain ⟨y1, y2⟩ := zs w1
        have := w2 y1
        omega
      · refine hseg _ _ _ _ _ r6 M6 _ _ _ _ _ d4 ⟨pt_m0, pt_m0, pt_m0⟩ ⟨fun _ => ?_, trivial⟩
        refine tail _ r6 M6 ?_ (by rw [f9 _ (by omega) (by omega), f6 _ (by omega) (by omega), f3 _ (by omega), b23]) f7 (((fr3.tr f2).tr f5).tr f8)
        unfold ps_co ps_lp
        rw [if_pos (by rw [ps_op_og]; exact w), ps_op_og, qo]
        rfl
    · have eco : ps_su A N E ν = ps_co A N E ν := by
        unfold ps_co ps_lp
        rw [if_neg (by rw [ps_op_og]; exact w)]
      have tl := tail _ r3 M3 eco b23 g4 fr3
      by_cases q : (ps_su A N E ν).2.2.1 = 0
      · have k0 : (0 : Int) ≤ r3 83 ∧ r3 83 ≤ 0 := by omega
        obtain ⟨⟨⟨a1, a2, a3, a4⟩, a5, a6⟩, a7⟩ := h5 q
        obtain ⟨t3, t4, t2⟩ := gb_tkr a2
        have tt := ps_tk4 (A := A) (n := N) (p := (ps_su A N E ν).1)
        rcases (by omega : ps_tk A N (ps_su A N E ν).1 ≤ 2 ∨ ps_tk A N (ps_su A N E ν).1 = 3 ∨ ps_tk A N (ps_su A N E ν).1 = 4) with x | x | x
        · exact hseg _ _ _ _ _ r3 M3 _ _ _ _ _ c2 ⟨pt_m0, pt_mc k0 (pt_m1 (t2 x)), pt_m0⟩ ⟨fun _ => tl, trivial⟩
        · have vl := a5 x
          have no : ∀ c o, (c, o) ∈ [((60 : Int), (-10 : Int)), (61, -11)] → ps_vl A N (ps_su A N E ν).1 ≠ c := fun c o hm e => w ⟨q, fun z => by
            unfold ps_og ps_og ps_og at z
            simp only [List.mem_cons, List.not_mem_nil, or_false, Prod.mk.injEq] at hm
            by_cases y : ps_tk A N (ps_su A N E ν).1 = 3 ∧ ps_vl A N (ps_su A N E ν).1 = 60
            · rw [if_pos y] at z
              have z : (-10 : Int) = 0 := z
              omega
            · rw [if_neg y, if_pos ⟨x, by show ps_vl A N (ps_su A N E ν).1 = 61; omega⟩] at z
              have z : (-11 : Int) = 0 := z
              omega⟩
          have n60 := no 60 (-10) (by simp)
          have n61 := no 61 (-11) (by simp)
          have rg := (ps_vl_rg hA (ps_su A N E ν).1).1 x
          have go : ∀ z, z ∈ gb_ni → z.1 ≤ r3 79 → r3 79 ≤ z.2 → P (39, 0, 0) gb_n1 [] r3 M3 := fun z hz z1 z2 => hseg _ _ _ _ _ r3 M3 _ _ _ _ _ (List.all_eq_true.mp c4 z hz) ⟨pt_m0, pt_m3 k0 (t3 x) ⟨z1, z2⟩, pt_m0⟩ ⟨fun _ => tl, trivial⟩
          rcases (by omega : r3 79 ≤ 59 ∨ 62 ≤ r3 79) with y | y
          · exact go (0, 59) (by unfold gb_ni; simp) (by show (0 : Int) ≤ r3 79; omega) y
          · exact go (62, 255) (by unfold gb_ni; simp) y (by show r3 79 ≤ 255; omega)
        · exact hseg _ _ _ _ _ r3 M3 _ _ _ _ _ c3 ⟨pt_m0, pt_mc k0 (pt_m1 (t4 x)), pt_m0⟩ ⟨fun _ => tl, trivial⟩
      · exact hseg _ _ _ _ _ r3 M3 _ _ _ _ _ c1 ⟨pt_m0, pt_m1 ⟨by show (1 : Int) ≤ r3 83; omega, by show r3 83 ≤ 3; omega⟩, pt_m0⟩ ⟨fun _ => tl, trivial⟩
  · refine hvret (23, 0, 0) _ r2 M2 rfl i1 (Nat.ble_eq_true_of_le (Nat.zero_le _)) (Nat.ble_eq_true_of_le (Nat.zero_le _)) ⟨rfl, ?_, g2⟩
    unfold ps_ne
    rw [ps_co_id hf]
    exact gb_R_rp g1 hf
end GBO2
