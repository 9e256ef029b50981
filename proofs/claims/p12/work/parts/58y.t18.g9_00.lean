/-! TEXTS (the class): read -/
noncomputable abbrev ga_rh (cp : List (Nat × Int × Int)) (pc : Nat) (S : List ai_V) : Bool := ga_rw 88 [62, 75] true 36 ga_cL cp pc ga_cL S []
theorem ga_rd_c : ga_rw 88 [31] true 0 (ga_3 wa_u) [(392, (0, 200))] 31 (ga_3 wa_u) [wa_r 84] [(39, gz_p 392), (40, gz_k 0), (38, gz_k 0), (85, gz_k (-1)), (37, gz_k 0), (75, gz_k 0)] = true ∧
    ga_rw 88 [36] false 34 (ga_3 wa_u) [] 36 ga_cL [] [(393, gz_k 0)] = true ∧
    (ga_rh [(393, (9, 9))] 75 [wa_i 38] = true ∧ ga_rh [(393, (0, 8)), (38, (1, 3))] 75 [wa_i 38] = true ∧ ga_rh [(393, (1, 8)), (38, (0, 0)), (42, (0, 0))] 75 [wa_i 38] = true) ∧
    (ga_rh [(393, (0, 0)), (38, (0, 0))] 62 [wa_i 393, wa_r 84] = true ∧ ga_rh [(393, (1, 8)), (38, (0, 0)), (42, (1, 4))] 62 [wa_i 393, wa_r 84] = true) ∧
    ga_rw 88 [36] false 65 ga_cL [(393, (0, 8))] 36 ga_cL [] [(393, gz_d 393 1)] = true ∧
    ((cy_vk 88 31 103 gaY.2.1 [wa_r 84] [wa_r 84] [] && pt_cck gaY 88 103 (31, 0, 0) 0 471 (ga_3 wa_u) [] [wa_r 84] [wa_r 84]) = true ∧ ga_ck 88 62 89 ga_cL (393, 0) = true) ∧ pt_is 5 88 75 = true ∧ (ct_mt 88).2.2.1 = 3 := by decide +kernel
noncomputable def ga_rdP (A : Nat → Int) (N : Nat) (r : Nat → Int) (M : Nat → Nat → Int) : Prop := r 392 = (N : Int) ∧ ps_A A N ∧ ∀ j, j < N → M 86 j = A j
noncomputable def ga_rdQ (A : Nat → Int) (N : Nat) (_r : Nat → Int) (M : Nat → Nat → Int) (r2 : Nat → Int) (M2 : Nat → Nat → Int) (o : Option Int) : Prop := o = some (ps_read A N).2.2.1 ∧ (ga_R A N (ps_read A N) r2 M2 ∧ ga_Zs N (ps_read A N)) ∧ r2 75 = 0 ∧ ∀ z, z ≠ 85 → M2 z = M z
theorem ga_rdM {A : Nat → Int} {N n : Nat} (hn : 61 ≤ n) : pt_Met (n + 1) 88 gaY [wa_r 84, wa_i 392] (ga_rdP A N) (ga_rdQ A N) 1 := by
  refine pt_intro (L0 := ga_3 wa_u) (ga_b0 88 (by decide)).2 (by omega) gasys (by
    rw [ga_rd_c.2.2.2.2.2.2.2]
    rfl) (fun P r M h hp => ?_)
  have h' := h
  obtain ⟨hseg, henv, -, -, -, -, -, -, hcall, -, hret, -, -, -⟩ := h'
  obtain ⟨c1, c2, ⟨c3, c4, c5⟩, ⟨c6, c7⟩, c8, ⟨k1, k2⟩, i1, -⟩ := ga_rd_c
  obtain ⟨ha, hA, hM⟩ := hp
  have hA' := hA
  obtain ⟨hN, hA2⟩ := hA'
  refine hseg _ _ _ _ _ r M _ _ _ _ _ c1 ⟨pt_m0, pt_m1 ⟨by show (0 : Int) ≤ r 392; omega, by show r 392 ≤ (200 : Int); omega⟩, pt_m0⟩ ⟨fun _ => ?_, trivial⟩
  obtain ⟨r1, hr1⟩ : ∃ r1, r1 = pt_up r [(39, gz_p 392), (40, gz_k 0), (38, gz_k 0), (85, gz_k (-1)), (37, gz_k 0), (75, gz_k 0)] := ⟨_, rfl⟩
  show P (31, 0, 0) (ga_3 wa_u) (wa_r 84 :: []) (pt_up r [(39, gz_p 392), (40, gz_k 0), (38, gz_k 0), (85, gz_k (-1)), (37, gz_k 0), (75, gz_k 0)]) M
  rw [← hr1]
  have l1 : r1 39 = (N : Int) := by
    rw [hr1]
    exact ha
  have l2 : r1 40 = 0 ∧ r1 38 = 0 ∧ r1 85 = -1 ∧ r1 37 = 0 ∧ r1 75 = 0 := by
    rw [hr1]
    exact ⟨rfl, rfl, rfl, rfl, rfl⟩
  obtain ⟨n, rfl⟩ : ∃ m, n = m + 1 + 1 + 1 + 1 := ⟨n - 4, by omega⟩
  rw [Bool.and_eq_true] at k1
  refine hcall (31, 0, 0) _ _ _ _ _ r1 M 103 0 471 _ _ (ga_b0 103 (by decide)).2 k1.1 k1.2 (ga_vM (A := A) (N := N) (p := 0) (by omega)) (show ga_T A N r1 M ∧ r1 40 = ((0 : Nat) : Int) ∧ 0 ≤ N from ⟨⟨l1, hA, hM⟩, l2.1, Nat.zero_le _⟩) (fun r2 M2 o hq => ?_)
  obtain ⟨⟨rfl, rfl⟩, ⟨q1, q2, q3, q4⟩, q5⟩ := hq
  have q5 : ∀ t, t < 391 → t ≠ 40 → t ≠ 41 → t ≠ 42 → t ≠ 43 → r2 t = r1 t := q5
  obtain ⟨rc1, rc2⟩ := wa_rm (n := n + 1 + 1 + 1 + 1) (ga_b0 103 (by decide)).1
  rw [rc1, rc2]
  obtain ⟨r3, hr3⟩ : ∃ r3, r3 = pt_mrg 391 r1 r2 471 none := ⟨_, rfl⟩
  show P (34, 0, 0) (ga_3 wa_u) [] (pt_mrg 391 r1 r2 471 none) M2
  rw [← hr3]
  have l3 : ∀ t, t < 391 → r3 t = r2 t := fun t ht => by
    rw [hr3]
    exact if_pos ht
  have f3 : ∀ t, t < 391 → t ≠ 40 → t ≠ 41 → t ≠ 42 → t ≠ 43 → r3 t = r1 t := fun t e1 e2 e3 e4 e5 => (l3 t e1).trans (q5 t e1 e2 e3 e4 e5)
  refine hseg _ _ _ _ _ r3 M2 _ _ _ _ _ c2 ⟨pt_m0, pt_m0, pt_m0⟩ ⟨fun _ => ?_, trivial⟩
  obtain ⟨r4, hr4⟩ : ∃ r4, r4 = pt_up r3 [(393, gz_k 0)] := ⟨_, rfl⟩
  show P (36, 0, 0) ga_cL [] (pt_up r3 [(393, gz_k 0)]) M2
  rw [← hr4]
  have n4 : ∀ t, t ≠ 393 → r4 t = r3 t := fun t ht => by
    rw [hr4]
    exact if_neg ht
  have R4 : ga_R A N (0, [], 0, -1) r4 M2 := by
    refine ga_R_c (r := r3) (fun t ht => n4 t (by omega)) ⟨⟨(f3 _ (by omega) (by omega) (by omega) (by omega) (by omega)).trans l1, hA, hM⟩, ⟨(f3 _ (by omega) (by omega) (by omega) (by omega) (by omega)).trans l2.2.1, (f3 _ (by omega) (by omega) (by omega) (by omega) (by omega)).trans l2.2.2.1, by decide, by decide⟩, fun _ => ⟨⟨(l3 _ (by omega)).trans q1, (l3 _ (by omega)).trans q2, (l3 _ (by omega)).trans q3, fun w => (l3 _ (by omega)).trans (q4 w)⟩, (f3 _ (by omega) (by omega) (by omega) (by omega) (by omega)).trans l2.2.2.2.1, fun j hj => absurd hj (by show ¬ j < 0; omega)⟩⟩
  have B4 : r4 75 = 0 := (n4 _ (by omega)).trans ((f3 _ (by omega) (by omega) (by omega) (by omega) (by omega)).trans l2.2.2.2.2)
  have fin : ∀ σ r5 M5, ga_R A N σ r5 M5 → ga_Zs N σ → ga_fr r4 M2 r5 M5 → σ = ps_read A N → P (75, 0, 0) ga_cL [wa_i 38] r5 M5 := fun σ r5 M5 g1 gz g2 e => by
    subst e
    refine hret (75, 0, 0) _ (38, 0) r5 M5 rfl i1 (by decide +kernel) (by decide +kernel) ⟨congrArg some ?_, ⟨g1, gz⟩, g2.1.trans B4, fun z hz => g2.2 z hz⟩
    show r5 38 + 0 = _
    rw [g1.2.1.1, Int.add_zero]
  have lp : ∀ (f i : Nat) (σ : ps_S) (r5 : Nat → Int) (M5 : Nat → Nat → Int), i + f = 9 → r5 393 = (i : Int) → ga_R A N σ r5 M5 → ga_Zs N σ → ga_fr r4 M2 r5 M5 → ps_rd A N f i σ = ps_read A N → P (36, 0, 0) ga_cL [] r5 M5 := by
    intro f
    induction f with
    | zero =>
      intro i σ r5 M5 hi e2 g1 gz g2 e
      refine hseg _ _ _ _ _ r5 M5 _ _ _ _ _ c3 ⟨pt_m0, pt_m1 ⟨by show (9 : Int) ≤ r5 393; omega, by show r5 393 ≤ (9 : Int); omega⟩, pt_m0⟩ ⟨fun _ => ?_, trivial⟩
      exact fin σ r5 M5 g1 gz g2 e
    | succ f ih =>
      intro i σ r5 M5 hi e2 g1 gz g2 e
      obtain ⟨h1, ⟨h2, h3, h4, h4'⟩, h5⟩ := id g1
      have t4 := ps_tk4 (A := A) (n := N) (p := σ.1)
      unfold ps_rd at e
      by_cases q0 : σ.2.2.1 = 0
      · have k0 : (0 : Int) ≤ r5 38 ∧ r5 38 ≤ 0 := by omega
        obtain ⟨⟨a1, a2, a3, a4⟩, a5, a6⟩ := h5 q0
        by_cases w : i = 0 ∨ ps_tk A N σ.1 ≠ 0
        · rw [if_pos ⟨q0, w⟩] at e
          have go : P (62, 0, 0) ga_cL [wa_i 393, wa_r 84] r5 M5 := by
            show P (62, 0, 0) ga_cL (.inl (393, 0) :: wa_r 84 :: []) r5 M5
            refine ga_use h (ga_b0 89 (by decide)) k2 (ga_cM (A := A) (N := N) (σ := σ) (i := i) (n := n + 1 + 1 + 1) (by omega) (by omega) q0) g1 gz (by show r5 393 + 0 = (i : Int); omega) (fun r6 M6 b1 b2 b3 => ?_)
            have a26 : r6 393 = (i : Int) := (b3 _ (by omega) (by omega)).trans e2
            refine hseg _ _ _ _ _ r6 M6 _ _ _ _ _ c8 ⟨pt_m0, pt_m1 ⟨by show (0 : Int) ≤ r6 393; omega, by show r6 393 ≤ (8 : Int); omega⟩, pt_m0⟩ ⟨fun _ => ?_, trivial⟩
            obtain ⟨r7, hr7⟩ : ∃ r7, r7 = pt_up r6 [(393, gz_d 393 1)] := ⟨_, rfl⟩
            show P (36, 0, 0) ga_cL [] (pt_up r6 [(393, gz_d 393 1)]) M6
            rw [← hr7]
            have n7 : ∀ t, t ≠ 393 → r7 t = r6 t := fun t ht => by
              rw [hr7]
              exact if_neg ht
            exact ih (i + 1) _ r7 M6 (by omega) (by rw [hr7]; show r6 393 + 1 = _; omega) (ga_R_c (fun t ht => n7 t (by omega)) b1) (ga_Zs_ok (ps_ok_cl hA) gz) ⟨(n7 _ (by omega)).trans (b2.1.trans g2.1), fun z hz => (b2.2 z hz).trans (g2.2 z hz)⟩ e
          by_cases i0 : i = 0
          · exact hseg _ _ _ _ _ r5 M5 _ _ _ _ _ c6 ⟨pt_m0, pt_mc ⟨by show (0 : Int) ≤ r5 393; omega, by show r5 393 ≤ (0 : Int); omega⟩ (pt_m1 k0), pt_m0⟩ ⟨fun _ => go, trivial⟩
          · exact hseg _ _ _ _ _ r5 M5 _ _ _ _ _ c7 ⟨pt_m0, pt_m3 ⟨by show (1 : Int) ≤ r5 393; omega, by show r5 393 ≤ (8 : Int); omega⟩ k0 ⟨by show (1 : Int) ≤ r5 42; omega, by show r5 42 ≤ (4 : Int); omega⟩, pt_m0⟩ ⟨fun _ => go, trivial⟩
        · rw [if_neg (fun z => w z.2)] at e
          refine hseg _ _ _ _ _ r5 M5 _ _ _ _ _ c5 ⟨pt_m0, pt_m3 ⟨by show (1 : Int) ≤ r5 393; omega, by show r5 393 ≤ (8 : Int); omega⟩ k0 ⟨by show (0 : Int) ≤ r5 42; omega, by show r5 42 ≤ (0 : Int); omega⟩, pt_m0⟩ ⟨fun _ => ?_, trivial⟩
          exact fin σ r5 M5 g1 gz g2 e
      · rw [if_neg (fun z => q0 z.1)] at e
        refine hseg _ _ _ _ _ r5 M5 _ _ _ _ _ c4 ⟨pt_m0, pt_mc ⟨by show (0 : Int) ≤ r5 393; omega, by show r5 393 ≤ (8 : Int); omega⟩ (pt_m1 ⟨by show (1 : Int) ≤ r5 38; omega, by show r5 38 ≤ (3 : Int); omega⟩), pt_m0⟩ ⟨fun _ => ?_, trivial⟩
        exact fin σ r5 M5 g1 gz g2 e
  exact lp 9 0 (0, [], 0, -1) r4 M2 (by omega) (by rw [hr4]; rfl) R4 (fun _ => ⟨Nat.zero_le _, Nat.le_refl _⟩) ga_fr.rf rfl
