/-! TEXTS (the class): comparison, negation, conjunction -/
theorem ga_co_c : ga_sk 93 94 5 61 48 53 58 (ga_3 wa_u) (ga_3 wa_u) (fun o => ga_3 (gz_n o)) [] 3 [(60, -10), (61, -11)] [(0, 59), (62, 255)] = true ∧ ga_rw 93 [2] true 0 (ga_3 wa_u) [] 2 (ga_3 wa_u) [wa_i 392, wa_r 84] [] = true ∧ ga_ck 93 2 94 (ga_3 wa_u) (392, 0) = true ∧ pt_is 7 93 61 = true := by decide +kernel
noncomputable def ga_nL : List ai_V := ga_4 (wa_i 393) (wa_i 394)
theorem ga_ne_c : ga_rw 92 [4] true 0 (ga_4 wa_u wa_u) [] 4 ga_nL [] [(393, gz_k 0), (394, gz_k 0)] = true ∧
    (ga_rw 92 [34, 44, 55] true 4 ga_nL [(394, (7, 7))] 55 ga_nL [wa_i 392, wa_r 84] [] = true ∧ ga_rw 92 [34, 44, 55] true 4 ga_nL [(394, (0, 6)), (38, (1, 3))] 55 ga_nL [wa_i 392, wa_r 84] [] = true ∧
      ga_rw 92 [34, 44, 55] true 4 ga_nL [(394, (0, 6)), (38, (0, 0)), (42, (0, 1))] 55 ga_nL [wa_i 392, wa_r 84] [] = true ∧ ga_rw 92 [34, 44, 55] true 4 ga_nL [(394, (0, 6)), (38, (0, 0)), (42, (3, 4))] 55 ga_nL [wa_i 392, wa_r 84] [] = true ∧
      ga_rw 92 [34, 44, 55] true 4 ga_nL [(394, (0, 6)), (38, (0, 0)), (42, (2, 2)), (43, (-17, -13))] 55 ga_nL [wa_i 392, wa_r 84] [] = true ∧ ga_rw 92 [34, 44, 55] true 4 ga_nL [(394, (0, 6)), (38, (0, 0)), (42, (2, 2)), (43, (-11, -1))] 55 ga_nL [wa_i 392, wa_r 84] [] = true) ∧
    (ga_rw 92 [34, 44, 55] true 4 ga_nL [(394, (0, 6)), (393, (0, 5)), (38, (0, 0)), (42, (2, 2)), (43, (-12, -12))] 44 ga_nL [wa_r 84] [(393, gz_d 393 1)] = true ∧ ga_rw 92 [34, 44, 55] true 4 ga_nL [(394, (0, 6)), (393, (6, 6)), (38, (0, 0)), (42, (2, 2)), (43, (-12, -12))] 34 ga_nL [gz_n 2, wa_r 84] [] = true) ∧
    (ga_rw 92 [4] false 47 ga_nL [(394, (0, 6))] 4 ga_nL [] [(394, gz_d 394 1)] = true ∧ ga_rw 92 [4] false 37 ga_nL [(394, (0, 6))] 4 ga_nL [] [(394, gz_d 394 1)] = true ∧ ga_rw 92 [60] false 58 ga_nL [] 60 ga_nL [] [(394, gz_k 0)] = true ∧ ga_rw 92 [60] false 71 ga_nL [(394, (0, 6))] 60 ga_nL [] [(394, gz_d 394 1)] = true) ∧
    (pt_row gaY 92 [68, 77] true (60, 0, 0) ga_nL [] [] [(393, (0, 6)), (394, (0, 6))] [((394, 1), (393, 0))] [] [((68, 0, 0), (ga_nL, [gz_n (-12), wa_r 84]), [], [])] = true ∧ pt_row gaY 92 [68, 77] true (60, 0, 0) ga_nL [] [] [(393, (0, 6)), (394, (0, 6))] [((393, 0), (394, 0))] [] [((77, 0, 0), (ga_nL, []), [], [])] = true) ∧
    (ga_ca 92 44 ga_nL = true ∧ ga_ck 92 34 98 ga_nL (0, 2) = true ∧ ga_ck 92 55 93 ga_nL (392, 0) = true ∧ ga_ck 92 68 99 ga_nL (0, -12) = true) ∧ pt_is 7 92 77 = true := by decide +kernel
theorem ps_nt_le {A : Nat → Int} {N : Nat} : ∀ (f : Nat) (σ : ps_S), (ps_nt A N f σ).2 ≤ f
  | 0, σ => Nat.le_refl _
  | f + 1, σ => by
    unfold ps_nt
    split
    · have := ps_nt_le (A := A) (N := N) f (ps_av A N σ)
      show (ps_nt A N f (ps_av A N σ)).2 + 1 ≤ f + 1
      omega
    · exact Nat.zero_le _
section GAN
variable {n : Nat} {Z : (Nat → Int) → (Nat → Nat → Int) → Option Int → Prop} {P : pt_P} {A : Nat → Int} {N : Nat} {r0 : Nat → Int} {M0 : Nat → Nat → Int} {a : Int}
theorem ga_nl1 (h : pt_Cl n 92 gaY 0 Z P) (hn : 8 ≤ n) : ∀ (f i : Nat) (σ : ps_S) (r : Nat → Int) (M : Nat → Nat → Int), i + f = 6 → r 393 = (i : Int) → r 394 = (i : Int) → r 392 = a → ga_R A N σ r M → ga_Zs N σ → ga_fr r0 M0 r M →
    (∀ r2 M2, r2 393 = ((i + (ps_nt A N f σ).2 : Nat) : Int) → r2 392 = a → ga_R A N (ps_nt A N f σ).1 r2 M2 → ga_fr r0 M0 r2 M2 → P (55, 0, 0) ga_nL [wa_i 392, wa_r 84] r2 M2) → P (4, 0, 0) ga_nL [] r M := by
  have h' := h
  obtain ⟨hseg, henv, -⟩ := h'
  obtain ⟨-, ⟨c1, c2, c3, c4, c5, c6⟩, ⟨c7, c8⟩, ⟨c9, c10, -, -⟩, -, ⟨k1, k2, -, -⟩, -⟩ := ga_ne_c
  intro f
  induction f with
  | zero =>
    intro i σ r M hi e2 e3 e1 hR hz hfr k
    obtain ⟨h1, ⟨h2, h3, h4, h4'⟩, h5⟩ := id hR
    have hA := h1.2.1
    have m3 : (0 : Int) ≤ r 394 ∧ r 394 ≤ 6 := by omega
    have ex : ¬ (σ.2.2.1 = 0 ∧ ps_iw A N (-12) σ = true) → P (55, 0, 0) ga_nL [wa_i 392, wa_r 84] r M := fun w => by
      have e : ps_nt A N 0 σ = (σ, 0) := by
        unfold ps_nt
        rw [if_neg w]
      refine k r M ?_ e1 ?_ hfr
      · rw [e]
        exact e2
      · rw [e]
        exact hR
    by_cases q0 : σ.2.2.1 = 0
    · have k0 : (0 : Int) ≤ r 38 ∧ r 38 ≤ 0 := by omega
      obtain ⟨⟨a1, a2, a3, a4⟩, a5, a6⟩ := h5 q0
      have t4 := ps_tk4 (A := A) (n := N) (p := σ.1)
      by_cases t : ps_tk A N σ.1 = 2
      · have vl := a4 (by omega)
        have rg := (ps_vl_rg hA σ.1).2 t
        have kd : (2 : Int) ≤ r 42 ∧ r 42 ≤ 2 := by omega
        by_cases v : ps_vl A N σ.1 = -12
        · have iw := ps_iw_iff.mpr ⟨t, v⟩
          have e : ps_nt A N 0 σ = (ps_fl A N 2 σ, 0) := by
            unfold ps_nt
            rw [if_pos ⟨q0, iw⟩]
          rw [e] at k
          refine hseg _ _ _ _ _ r M _ _ _ _ _ c8 ⟨pt_m0, pt_mc m3 (pt_mc ⟨by show (6 : Int) ≤ r 393; omega, by show r 393 ≤ (6 : Int); omega⟩ (pt_mc k0 (pt_mc kd (pt_m1 ⟨by show (-12 : Int) ≤ r 43; omega, by show r 43 ≤ (-12 : Int); omega⟩)))), pt_m0⟩ ⟨fun _ => ?_, trivial⟩
          refine henv _ _ _ _ _ (fun hE _ => ?_)
          have z0 : r 0 = 0 := hE.1
          show P (34, 0, 0) ga_nL (.inl (0, 2) :: wa_r 84 :: []) r M
          refine ga_useF (k := 2) h (by omega) (by omega) k2 hR (by show r 0 + 2 = 2; omega) (fun r2 M2 g1 g2 g3 => ?_)
          refine hseg _ _ _ _ _ r2 M2 _ _ _ _ _ c10 ⟨pt_m0, pt_m1 ⟨by show (0 : Int) ≤ r2 394; rw [g3 _ (by omega) (by omega)]; omega, by show r2 394 ≤ 6; rw [g3 _ (by omega) (by omega)]; omega⟩, pt_m0⟩ ⟨fun _ => ?_, trivial⟩
          obtain ⟨r3, hr3⟩ : ∃ r3, r3 = pt_up r2 [(394, gz_d 394 1)] := ⟨_, rfl⟩
          show P (4, 0, 0) ga_nL [] (pt_up r2 [(394, gz_d 394 1)]) M2
          rw [← hr3]
          have n3 : ∀ t, t ≠ 394 → r3 t = r2 t := fun t ht => by
            rw [hr3]
            exact if_neg ht
          have v3 : r3 394 = 7 := by
            rw [hr3]
            show r2 394 + 1 = 7
            rw [g3 _ (by omega) (by omega)]
            omega
          refine hseg _ _ _ _ _ r3 M2 _ _ _ _ _ c1 ⟨pt_m0, pt_m1 ⟨by show (7 : Int) ≤ r3 394; omega, by show r3 394 ≤ 7; omega⟩, pt_m0⟩ ⟨fun _ => ?_, trivial⟩
          exact k r3 M2 (by rw [n3 _ (by omega), g3 _ (by omega) (by omega)]; exact e2) (by rw [n3 _ (by omega), g3 _ (by omega) (by omega), e1]) (ga_R_c (fun t ht => n3 t (by omega)) g1) ⟨(n3 _ (by omega)).trans (g2.1.trans hfr.1), fun z hz => (g2.2 z hz).trans (hfr.2 z hz)⟩
        · have out := ex (fun w => v (ps_iw_iff.mp w.2).2)
          rcases (by omega : ps_vl A N σ.1 ≤ -13 ∨ -11 ≤ ps_vl A N σ.1) with w | w
          · exact hseg _ _ _ _ _ r M _ _ _ _ _ c5 ⟨pt_m0, pt_m4 m3 k0 kd ⟨by show (-17 : Int) ≤ r 43; omega, by show r 43 ≤ (-13 : Int); omega⟩, pt_m0⟩ ⟨fun _ => out, trivial⟩
          · exact hseg _ _ _ _ _ r M _ _ _ _ _ c6 ⟨pt_m0, pt_m4 m3 k0 kd ⟨by show (-11 : Int) ≤ r 43; omega, by show r 43 ≤ (-1 : Int); omega⟩, pt_m0⟩ ⟨fun _ => out, trivial⟩
      · have out := ex (fun w => t (ps_iw_iff.mp w.2).1)
        rcases (by omega : ps_tk A N σ.1 ≤ 1 ∨ 3 ≤ ps_tk A N σ.1) with w | w
        · exact hseg _ _ _ _ _ r M _ _ _ _ _ c3 ⟨pt_m0, pt_m3 m3 k0 ⟨by show (0 : Int) ≤ r 42; omega, by show r 42 ≤ (1 : Int); omega⟩, pt_m0⟩ ⟨fun _ => out, trivial⟩
        · exact hseg _ _ _ _ _ r M _ _ _ _ _ c4 ⟨pt_m0, pt_m3 m3 k0 ⟨by show (3 : Int) ≤ r 42; omega, by show r 42 ≤ (4 : Int); omega⟩, pt_m0⟩ ⟨fun _ => out, trivial⟩
    · exact hseg _ _ _ _ _ r M _ _ _ _ _ c2 ⟨pt_m0, pt_mc m3 (pt_m1 ⟨by show (1 : Int) ≤ r 38; omega, by show r 38 ≤ (3 : Int); omega⟩), pt_m0⟩ ⟨fun _ => ex (fun w => q0 w.1), trivial⟩
  | succ f ih =>
    intro i σ r M hi e2 e3 e1 hR hz hfr k
    obtain ⟨h1, ⟨h2, h3, h4, h4'⟩, h5⟩ := id hR
    have hA := h1.2.1
    have m3 : (0 : Int) ≤ r 394 ∧ r 394 ≤ 6 := by omega
    have ex : ¬ (σ.2.2.1 = 0 ∧ ps_iw A N (-12) σ = true) → P (55, 0, 0) ga_nL [wa_i 392, wa_r 84] r M := fun w => by
      have e : ps_nt A N (f + 1) σ = (σ, 0) := by
        unfold ps_nt
        rw [if_neg w]
      refine k r M ?_ e1 ?_ hfr
      · rw [e]
        exact e2
      · rw [e]
        exact hR
    by_cases q0 : σ.2.2.1 = 0
    · have k0 : (0 : Int) ≤ r 38 ∧ r 38 ≤ 0 := by omega
      obtain ⟨⟨a1, a2, a3, a4⟩, a5, a6⟩ := h5 q0
      have t4 := ps_tk4 (A := A) (n := N) (p := σ.1)
      by_cases t : ps_tk A N σ.1 = 2
      · have vl := a4 (by omega)
        have rg := (ps_vl_rg hA σ.1).2 t
        have kd : (2 : Int) ≤ r 42 ∧ r 42 ≤ 2 := by omega
        by_cases v : ps_vl A N σ.1 = -12
        · have iw := ps_iw_iff.mpr ⟨t, v⟩
          have e : ps_nt A N (f + 1) σ = ((ps_nt A N f (ps_av A N σ)).1, (ps_nt A N f (ps_av A N σ)).2 + 1) := by
            conv => lhs; unfold ps_nt
            rw [if_pos ⟨q0, iw⟩]
          rw [e] at k
          refine hseg _ _ _ _ _ r M _ _ _ _ _ c7 ⟨pt_m0, pt_mc m3 (pt_mc ⟨by show (0 : Int) ≤ r 393; omega, by show r 393 ≤ (5 : Int); omega⟩ (pt_mc k0 (pt_mc kd (pt_m1 ⟨by show (-12 : Int) ≤ r 43; omega, by show r 43 ≤ (-12 : Int); omega⟩)))), pt_m0⟩ ⟨fun _ => ?_, trivial⟩
          obtain ⟨r1, hr1⟩ : ∃ r1, r1 = pt_up r [(393, gz_d 393 1)] := ⟨_, rfl⟩
          show P (44, 0, 0) ga_nL (wa_r 84 :: []) (pt_up r [(393, gz_d 393 1)]) M
          rw [← hr1]
          have n1 : ∀ t, t ≠ 393 → r1 t = r t := fun t ht => by
            rw [hr1]
            exact if_neg ht
          have v1 : r1 393 = (i : Int) + 1 := by
            rw [hr1]
            show r 393 + 1 = _
            rw [e2]
          refine ga_useA h hn k1 (ga_R_c (fun t ht => n1 t (by omega)) hR) hz q0 (fun r2 g1 g2 g3 => ?_)
          refine hseg _ _ _ _ _ r2 M _ _ _ _ _ c9 ⟨pt_m0, pt_m1 ⟨by show (0 : Int) ≤ r2 394; rw [g3 _ (by omega), n1 _ (by omega)]; omega, by show r2 394 ≤ 6; rw [g3 _ (by omega), n1 _ (by omega)]; omega⟩, pt_m0⟩ ⟨fun _ => ?_, trivial⟩
          obtain ⟨r3, hr3⟩ : ∃ r3, r3 = pt_up r2 [(394, gz_d 394 1)] := ⟨_, rfl⟩
          show P (4, 0, 0) ga_nL [] (pt_up r2 [(394, gz_d 394 1)]) M
          rw [← hr3]
          have n3 : ∀ t, t ≠ 394 → r3 t = r2 t := fun t ht => by
            rw [hr3]
            exact if_neg ht
          have v3 : r3 394 = (i : Int) + 1 := by
            rw [hr3]
            show r2 394 + 1 = _
            rw [g3 _ (by omega), n1 _ (by omega), e3]
          refine ih (i + 1) _ r3 M (by omega) (by rw [n3 _ (by omega), g3 _ (by omega), v1]; omega) (by rw [v3]; omega) (by rw [n3 _ (by omega), g3 _ (by omega), n1 _ (by omega), e1]) (ga_R_c (fun t ht => n3 t (by omega)) g1) (ga_Zs_ok (ps_o1_ok (ps_o1_av (σ := σ) hA (by omega))) hz) ⟨(n3 _ (by omega)).trans (g2.1.trans ((n1 _ (by omega)).trans hfr.1)), fun z hz => (g2.2 z hz).trans (hfr.2 z hz)⟩ (fun r4 M4 b1 b2 b3 b4 => ?_)
          exact k r4 M4 (by rw [b1]; show (((i + 1 + _ : Nat)) : Int) = ((i + (_ + 1) : Nat) : Int); omega) b2 b3 b4
        · have out := ex (fun w => v (ps_iw_iff.mp w.2).2)
          rcases (by omega : ps_vl A N σ.1 ≤ -13 ∨ -11 ≤ ps_vl A N σ.1) with w | w
          · exact hseg _ _ _ _ _ r M _ _ _ _ _ c5 ⟨pt_m0, pt_m4 m3 k0 kd ⟨by show (-17 : Int) ≤ r 43; omega, by show r 43 ≤ (-13 : Int); omega⟩, pt_m0⟩ ⟨fun _ => out, trivial⟩
          · exact hseg _ _ _ _ _ r M _ _ _ _ _ c6 ⟨pt_m0, pt_m4 m3 k0 kd ⟨by show (-11 : Int) ≤ r 43; omega, by show r 43 ≤ (-1 : Int); omega⟩, pt_m0⟩ ⟨fun _ => out, trivial⟩
      · have out := ex (fun w => t (ps_iw_iff.mp w.2).1)
        rcases (by omega : ps_tk A N σ.1 ≤ 1 ∨ 3 ≤ ps_tk A N σ.1) with w | w
        · exact hseg _ _ _ _ _ r M _ _ _ _ _ c3 ⟨pt_m0, pt_m3 m3 k0 ⟨by show (0 : Int) ≤ r 42; omega, by show r 42 ≤ (1 : Int); omega⟩, pt_m0⟩ ⟨fun _ => out, trivial⟩
        · exact hseg _ _ _ _ _ r M _ _ _ _ _ c4 ⟨pt_m0, pt_m3 m3 k0 ⟨by show (3 : Int) ≤ r 42; omega, by show r 42 ≤ (4 : Int); omega⟩, pt_m0⟩ ⟨fun _ => out, trivial⟩
    · exact hseg _ _ _ _ _ r M _ _ _ _ _ c2 ⟨pt_m0, pt_mc m3 (pt_m1 ⟨by show (1 : Int) ≤ r 38; omega, by show r 38 ≤ (3 : Int); omega⟩), pt_m0⟩ ⟨fun _ => ex (fun w => q0 w.1), trivial⟩
theorem ga_nl2 (h : pt_Cl n 92 gaY 0 Z P) (hn : 8 ≤ n) {τ : ps_S} (hzz : ∀ r2 M2, ga_R A N τ r2 M2 → ga_fr r0 M0 r2 M2 → Z r2 M2 none) : ∀ (f j k : Nat) (υ : ps_S) (r : Nat → Int) (M : Nat → Nat → Int), j + f = k → k ≤ 6 → r 394 = (j : Int) → r 393 = (k : Int) → ga_R A N υ r M → (υ.2.2.1 = 0 → υ.2.1.length + f ≤ 200) → ga_fr r0 M0 r M → ps_rp f υ = τ → P (60, 0, 0) ga_nL [] r M := by
  have h' := h
  obtain ⟨hseg, henv, -, -, -, -, -, -, -, -, -, -, -, hvret⟩ := h'
  obtain ⟨-, -, -, ⟨-, -, -, c1⟩, ⟨c2, c3⟩, ⟨-, -, -, k4⟩, i1⟩ := ga_ne_c
  intro f
  induction f with
  | zero =>
    intro j k υ r M hi hk e3 e2 hR hl hfr eq
    have eq : υ = τ := eq
    subst eq
    refine hseg _ _ _ _ _ r M _ _ _ _ _ c3 ⟨pt_m0, pt_mc ⟨by show (0 : Int) ≤ r 393; omega, by show r 393 ≤ (6 : Int); omega⟩ (pt_m1 ⟨by show (0 : Int) ≤ r 394; omega, by show r 394 ≤ (6 : Int); omega⟩), pt_m1 (by show r 393 + 0 ≤ r 394 + 0; omega)⟩ ⟨fun _ => ?_, trivial⟩
    exact hvret (77, 0, 0) _ r M rfl i1 (Nat.ble_eq_true_of_le (Nat.zero_le _)) (Nat.ble_eq_true_of_le (Nat.zero_le _)) (hzz r M hR hfr)
  | succ f ih =>
    intro j k υ r M hi hk e3 e2 hR hl hfr eq
    refine hseg _ _ _ _ _ r M _ _ _ _ _ c2 ⟨pt_m0, pt_mc ⟨by show (0 : Int) ≤ r 393; omega, by show r 393 ≤ (6 : Int); omega⟩ (pt_m1 ⟨by show (0 : Int) ≤ r 394; omega, by show r 394 ≤ (6 : Int); omega⟩), pt_m1 (by show r 394 + 1 ≤ r 393 + 0; omega)⟩ ⟨fun _ => ?_, trivial⟩
    refine henv _ _ _ _ _ (fun hE _ => ?_)
    have z0 : r 0 = 0 := hE.1
    show P (68, 0, 0) ga_nL (.inl (0, -12) :: wa_r 84 :: []) r M
    refine ga_useE (c := -12) h (by omega) k4 hR (fun w => by have := hl w; omega) (by show r 0 + -12 = -12; omega) (fun r2 M2 g1 g2 g3 => ?_)
    refine hseg _ _ _ _ _ r2 M2 _ _ _ _ _ c1 ⟨pt_m0, pt_m1 ⟨by show (0 : Int) ≤ r2 394; rw [g3 _ (by omega) (by omega)]; omega, by show r2 394 ≤ 6; rw [g3 _ (by omega) (by omega)]; omega⟩, pt_m0⟩ ⟨fun _ => ?_, trivial⟩
    obtain ⟨r3, hr3⟩ : ∃ r3, r3 = pt_up r2 [(394, gz_d 394 1)] := ⟨_, rfl⟩
    show P (60, 0, 0) ga_nL [] (pt_up r2 [(394, gz_d 394 1)]) M2
    rw [← hr3]
    have n3 : ∀ t, t ≠ 394 → r3 t = r2 t := fun t ht => by
      rw [hr3]
      exact if_neg ht
    have v3 : r3 394 = (j : Int) + 1 := by
      rw [hr3]
      show r2 394 + 1 = _
      rw [g3 _ (by omega) (by omega), e3]
    refine ih (j + 1) k (ps_em (-12) υ) r3 M2 (by omega) hk (by rw [v3]; omega) (by rw [n3 _ (by omega), g3 _ (by omega) (by omega), e2]) (ga_R_c (fun t ht => n3 t (by omega)) g1) (fun w => ?_) ⟨(n3 _ (by omega)).trans (g2.1.trans hfr.1), fun z hz => (g2.2 z hz).trans (hfr.2 z hz)⟩ eq
    have := hl w
    show (υ.2.1 ++ [-12]).length + f ≤ 200
    rw [List.length_append, List.length_singleton]
    omega
end GAN
section GAO2
variable {A : Nat → Int} {N n : Nat} {E : ps_S → ps_S} {a : Int}
theorem ga_coM (hn : 12 ≤ n) (ha5 : 0 ≤ a ∧ a ≤ 5) (hok : ∀ σ, ps_ok N σ (E σ)) (hE : ∀ m, n = m + 3 → ∀ σ, ga_K m 90 A N σ (E σ) (a + 1)) {σ : ps_S} : ga_K (n + 1) 93 A N σ (ps_co A N E σ) a := by
  obtain ⟨m, rfl⟩ : ∃ m, n = m + 1 := ⟨n - 1, by omega⟩
  have hB : ∀ τ, ga_K (m + 1) 94 A N τ (ps_su A N E τ) a := fun τ => ga_suM (by omega) ha5 hok (fun k hk => hE k (by omega))
  refine pt_intro (L0 := ga_3 wa_u) (ga_b0 93 (by decide)).2 (by omega) gasys (by
    rw [ga_l_l.2.2.1]
    rfl) (fun P r M h hp => ?_)
  have h' := h
  obtain ⟨hseg, -, -, -, -, -, -, -, -, -, -, -, -, hvret⟩ := h'
  obtain ⟨⟨hR, hz⟩, ha⟩ := hp
  have hA := hR.1.2.1
  obtain ⟨c1, c2, c3, c4⟩ := ga_co_c
  have fin : ∀ L r2 M2, ga_R A N (ps_co A N E σ) r2 M2 → ga_fr r M r2 M2 → P (61, 0, 0) L [] r2 M2 := fun L r2 M2 g1 g2 => hvret (61, 0, 0) _ r2 M2 rfl c4 (Nat.ble_eq_true_of_le (Nat.zero_le _)) (Nat.ble_eq_true_of_le (Nat.zero_le _)) ⟨rfl, g1, g2⟩
  refine hseg _ _ _ _ _ r M _ _ _ _ _ c2 ⟨pt_m0, pt_m0, pt_m0⟩ ⟨fun _ => ?_, trivial⟩
  show P (2, 0, 0) (ga_3 wa_u) (.inl (392, 0) :: wa_r 84 :: []) r M
  refine ga_use h (ga_b0 94 (by decide)) c3 (hB σ) hR hz (by show r 392 + 0 = a; omega) (fun r2 M2 g1 g2 g3 => ?_)
  refine ga_step (B := ps_su A N E) (a := a) h (by omega) c1 (ga_b0 94 (by decide)) (by omega) g1 (ga_Zs_ok (ps_ok_su hA hok) hz) pt_m0 (by rw [g3 _ (by omega) (by omega), ha]) (ga_cov3 (by decide +kernel) hA _) (by omega) (fun τ => ps_ok_su hA hok) hB (fun w => ?_) (fun w q hq qo r3 M3 b1 b2 _ => ?_)
  · refine fin _ r2 M2 ?_ g2
    unfold ps_co ps_lp
    rw [if_neg (by rw [ps_op_og]; exact w)]
    exact g1
  · refine fin _ r3 M3 ?_ (g2.tr b2)
    unfold ps_co ps_lp
    rw [if_pos (by rw [ps_op_og]; exact w), ps_op_og]
    exact b1
theorem ga_neM (hn : 13 ≤ n) (ha5 : 0 ≤ a ∧ a ≤ 5) (hok : ∀ σ, ps_ok N σ (E σ)) (hE : ∀ m, n = m + 4 → ∀ σ, ga_K m 90 A N σ (E σ) (a + 1)) {σ : ps_S} : ga_K (n + 1) 92 A N σ (ps_ne A N E σ) a := by
  obtain ⟨m, rfl⟩ : ∃ m, n = m + 1 := ⟨n - 1, by omega⟩
  refine pt_intro (L0 := ga_4 wa_u wa_u) (ga_b0 92 (by decide)).2 (by omega) gasys (by
    rw [ga_l_l.2.2.2.1]
    rfl) (fun P r M h hp => ?_)
  have h' := h
  obtain ⟨hseg, -⟩ := h'
  obtain ⟨⟨hR, hz⟩, ha⟩ := hp
  have hA := hR.1.2.1
  obtain ⟨c0, -, -, ⟨-, -, c1, -⟩, -, ⟨-, -, k3, -⟩, -⟩ := ga_ne_c
  refine hseg _ _ _ _ _ r M _ _ _ _ _ c0 ⟨pt_m0, pt_m0, pt_m0⟩ ⟨fun _ => ?_, trivial⟩
  obtain ⟨r1, hr1⟩ : ∃ r1, r1 = pt_up r [(393, gz_k 0), (394, gz_k 0)] := ⟨_, rfl⟩
  show P (4, 0, 0) ga_nL [] (pt_up r [(393, gz_k 0), (394, gz_k 0)]) M
  rw [← hr1]
  have n1 : ∀ t, t ≠ 393 → t ≠ 394 → r1 t = r t := fun t x y => by
    rw [hr1]
    exact (if_neg x).trans (if_neg y)
  refine ga_nl1 (r0 := r) (M0 := M) (A := A) (N := N) (a := a) h (by omega) 6 0 σ r1 M rfl (by rw [hr1]; rfl) (by rw [hr1]; rfl) (by rw [n1 _ (by omega) (by omega), ha]) (ga_R_c (fun t ht => n1 t (by omega) (by omega)) hR) hz ⟨n1 _ (by omega) (by omega), fun _ _ => rfl⟩ (fun r2 M2 e2 e1 g1 g2 => ?_)
  have okn := ps_ok_nt hA 6 σ
  have l6 := ps_nt_le (A := A) (N := N) 6 σ
  have zn : ga_Zs N (ps_nt A N 6 σ).1 := fun w => by
    obtain ⟨b1, b2⟩ := okn w
    obtain ⟨z1, z2⟩ := hz b1
    have := b2 z1
    omega
  show P (55, 0, 0) ga_nL (.inl (392, 0) :: wa_r 84 :: []) r2 M2
  refine ga_use h (ga_b0 93 (by decide)) k3 (ga_coM (A := A) (N := N) (E := E) (a := a) (σ := (ps_nt A N 6 σ).1) (by omega) ha5 hok (fun k hk => hE k (by omega))) g1 zn (by show r2 392 + 0 = a; omega) (fun r3 M3 g4 g5 g6 => ?_)
  refine hseg _ _ _ _ _ r3 M3 _ _ _ _ _ c1 ⟨pt_m0, pt_m0, pt_m0⟩ ⟨fun _ => ?_, trivial⟩
  obtain ⟨r4, hr4⟩ : ∃ r4, r4 = pt_up r3 [(394, gz_k 0)] := ⟨_, rfl⟩
  show P (60, 0, 0) ga_nL [] (pt_up r3 [(394, gz_k 0)]) M3
  rw [← hr4]
  have n4 : ∀ t, t ≠ 394 → r4 t = r3 t := fun t ht => by
    rw [hr4]
    exact if_neg ht
  refine ga_nl2 (r0 := r) (M0 := M) (A := A) (N := N) (τ := ps_ne A N E σ) h (by omega) (fun r5 M5 b1 b2 => ⟨rfl, b1, b2⟩) (ps_nt A N 6 σ).2 0 (ps_nt A N 6 σ).2 (ps_co A N E (ps_nt A N 6 σ).1) r4 M3 (by omega) l6 (by rw [hr4]; rfl) (by rw [n4 _ (by omega), g6 _ (by omega) (by omega), e2, Nat.zero_add]) (ga_R_c (fun t ht => n4 t (by omega)) g4) (fun w => ?_) ⟨(n4 _ (by omega)).trans (g5.1.trans g2.1), fun z hz => (g5.2 z hz).trans (g2.2 z hz)⟩ rfl
  obtain ⟨d1, d2⟩ := ps_ok_co hA hok w
  obtain ⟨b1, b2⟩ := okn d1
  obtain ⟨z1, z2⟩ := hz b1
  have x1 := b2 z1
  have x2 := d2 x1.2.1
  have := hA.1
  omega
theorem ga_anM (hn : 14 ≤ n) (ha5 : 0 ≤ a ∧ a ≤ 5) (hok : ∀ σ, ps_ok N σ (E σ)) (hE : ∀ m, n = m + 5 → ∀ σ, ga_K m 90 A N σ (E σ) (a + 1)) {σ : ps_S} : ga_K (n + 1) 91 A N σ (ps_an A N E σ) a := by
  obtain ⟨m, rfl⟩ : ∃ m, n = m + 1 := ⟨n - 1, by omega⟩
  exact ga_loopM (B := ps_ne A N E) (by omega) ga_an_k (ga_b0 91 (by decide)).2 (by rw [ga_l_l.2.2.2.2.1]; rfl) (ga_b0 92 (by decide)) (by omega) (fun τ => ps_ow_og) (ga_cov2 (by decide +kernel)) (fun hA τ => ps_ok_ne hA hok) (fun τ => ga_neM (by omega) ha5 hok (fun k hk => hE k (by omega))) (fun _ _ q hq => by cases hq)
end GAO2
