/-! TEXTS (the class): expression, clause, read -/
noncomputable abbrev ga_x0 (cp : List (Nat × Int × Int)) (k : Int) : Bool := ga_rw 90 [47] true 0 (ga_3 wa_u) ((392, (6, 6)) :: cp) 47 (ga_3 wa_u) [gz_n k, wa_r 84] []
theorem ga_x_c : (ga_x0 [(42, (-2147483648, 0))] 1 = true ∧ ga_x0 [(42, (1, 1))] 2 = true ∧ ga_x0 [(42, (2, 2))] 2 = true ∧ ga_x0 [(42, (4, 2147483647))] 1 = true) ∧
    (ga_x0 [(42, (3, 3)), (43, (-2147483648, 39))] 1 = true ∧ ga_x0 [(42, (3, 3)), (43, (40, 40))] 2 = true ∧ ga_x0 [(42, (3, 3)), (43, (41, 2147483647))] 1 = true) ∧
    (ga_ck 90 47 98 (ga_3 wa_u) (0, 1) = true ∧ ga_ck 90 47 98 (ga_3 wa_u) (0, 2) = true) ∧ pt_is 7 90 50 = true := by decide +kernel
theorem ga_bdK : (42, ((-2147483648 : Int), (2147483647 : Int))) ∈ gaE.2.1 := by decide +kernel
section GAX
variable {A : Nat → Int} {N : Nat}
theorem ga_x0M {n : Nat} (hn : 9 ≤ n) {σ : ps_S} : ga_K (n + 1) 90 A N σ (ps_ex A N 0 σ) 6 := by
  refine pt_intro (L0 := ga_3 wa_u) (ga_b0 90 (by decide)).2 (by omega) gasys (by
    rw [ga_l_l.2.2.2.2.2]
    rfl) (fun P r M h hp => ?_)
  have h' := h
  obtain ⟨hseg, henv, -, -, -, -, -, -, -, -, -, -, -, hvret⟩ := h'
  obtain ⟨⟨hR, hz⟩, ha⟩ := hp
  obtain ⟨⟨c1, c2, c3, c4⟩, ⟨c5, c6, c7⟩, ⟨k1, k2⟩, i1⟩ := ga_x_c
  obtain ⟨h1, ⟨h2, h3, h4, h4'⟩, h5⟩ := id hR
  refine henv _ _ _ _ _ (fun hEE _ => ?_)
  have h00 : r 0 = 0 := hEE.1
  have bV : (-2147483648 : Int) ≤ r 43 ∧ r 43 ≤ 2147483647 := (hEE.2.2.2.1 _ ga_bdV.1).2
  have bK : (-2147483648 : Int) ≤ r 42 ∧ r 42 ≤ 2147483647 := (hEE.2.2.2.1 _ ga_bdK).2
  have m6 : (6 : Int) ≤ r 392 ∧ r 392 ≤ 6 := by omega
  have t4 := ps_tk4 (A := A) (n := N) (p := σ.1)
  have go : ∀ k : Int, 1 ≤ k ∧ k ≤ 2 → (σ.2.2.1 = 0 → (if (ps_tk A N σ.1 = 1 ∨ ps_tk A N σ.1 = 2) ∨ ps_is A N 40 σ = true then (2 : Int) else 1) = k) → P (47, 0, 0) (ga_3 wa_u) [gz_n k, wa_r 84] r M := fun k hk e => by
    have e : ps_ex A N 0 σ = ps_fl A N k σ := by
      unfold ps_ex
      by_cases q : σ.2.2.1 = 0
      · rw [e q]
      · unfold ps_fl
        rw [if_neg q, if_neg q]
    show P (47, 0, 0) (ga_3 wa_u) (.inl (0, k) :: wa_r 84 :: []) r M
    have ck : ga_ck 90 47 98 (ga_3 wa_u) (0, k) = true := by
      rcases (by omega : k = 1 ∨ k = 2) with rfl | rfl
      · exact k1
      · exact k2
    refine ga_useF (k := k) h (by omega) (by omega) ck hR (by show r 0 + k = k; omega) (fun r2 M2 g1 g2 g3 => ?_)
    exact hvret (50, 0, 0) _ r2 M2 rfl i1 (Nat.ble_eq_true_of_le (Nat.zero_le _)) (Nat.ble_eq_true_of_le (Nat.zero_le _)) ⟨rfl, by rw [e]; exact g1, g2⟩
  have kv : σ.2.2.1 = 0 → r 42 = (ps_tk A N σ.1 : Int) ∧ (ps_tk A N σ.1 ≠ 0 → r 43 = ps_vl A N σ.1) := fun q => ⟨(h5 q).1.2.1, (h5 q).1.2.2.2⟩
  rcases (by omega : r 42 ≤ 0 ∨ r 42 = 1 ∨ r 42 = 2 ∨ r 42 = 3 ∨ 4 ≤ r 42) with w | w | w | w | w
  · refine hseg _ _ _ _ _ r M _ _ _ _ _ c1 ⟨pt_m0, pt_mc m6 (pt_m1 ⟨bK.1, w⟩), pt_m0⟩ ⟨fun _ => go 1 (by omega) (fun q => ?_), trivial⟩
    obtain ⟨kk, kv⟩ := kv q
    rw [if_neg]
    rintro (z | z)
    · omega
    · have := (ps_is_iff.mp z).1
      omega
  · refine hseg _ _ _ _ _ r M _ _ _ _ _ c2 ⟨pt_m0, pt_mc m6 (pt_m1 ⟨by show (1 : Int) ≤ r 42; omega, by show r 42 ≤ 1; omega⟩), pt_m0⟩ ⟨fun _ => go 2 (by omega) (fun q => ?_), trivial⟩
    obtain ⟨kk, kv⟩ := kv q
    rw [if_pos (Or.inl (by omega))]
  · refine hseg _ _ _ _ _ r M _ _ _ _ _ c3 ⟨pt_m0, pt_mc m6 (pt_m1 ⟨by show (2 : Int) ≤ r 42; omega, by show r 42 ≤ 2; omega⟩), pt_m0⟩ ⟨fun _ => go 2 (by omega) (fun q => ?_), trivial⟩
    obtain ⟨kk, kv⟩ := kv q
    rw [if_pos (Or.inl (by omega))]
  · have k3 : (3 : Int) ≤ r 42 ∧ r 42 ≤ 3 := by omega
    rcases (by omega : r 43 ≤ 39 ∨ r 43 = 40 ∨ 41 ≤ r 43) with v | v | v
    · refine hseg _ _ _ _ _ r M _ _ _ _ _ c5 ⟨pt_m0, pt_mc m6 (pt_mc k3 (pt_m1 ⟨bV.1, v⟩)), pt_m0⟩ ⟨fun _ => go 1 (by omega) (fun q => ?_), trivial⟩
      obtain ⟨kk, kv⟩ := kv q
      have kv := kv (by omega)
      rw [if_neg]
      rintro (z | z)
      · omega
      · have := (ps_is_iff.mp z).2
        omega
    · refine hseg _ _ _ _ _ r M _ _ _ _ _ c6 ⟨pt_m0, pt_mc m6 (pt_mc k3 (pt_m1 ⟨by show (40 : Int) ≤ r 43; omega, by show r 43 ≤ 40; omega⟩)), pt_m0⟩ ⟨fun _ => go 2 (by omega) (fun q => ?_), trivial⟩
      obtain ⟨kk, kv⟩ := kv q
      have kv := kv (by omega)
      rw [if_pos (Or.inr (ps_is_iff.mpr ⟨by omega, by omega⟩))]
    · refine hseg _ _ _ _ _ r M _ _ _ _ _ c7 ⟨pt_m0, pt_mc m6 (pt_mc k3 (pt_m1 ⟨v, bV.2⟩)), pt_m0⟩ ⟨fun _ => go 1 (by omega) (fun q => ?_), trivial⟩
      obtain ⟨kk, kv⟩ := kv q
      have kv := kv (by omega)
      rw [if_neg]
      rintro (z | z)
      · omega
      · have := (ps_is_iff.mp z).2
        omega
  · refine hseg _ _ _ _ _ r M _ _ _ _ _ c4 ⟨pt_m0, pt_mc m6 (pt_m1 ⟨w, bK.2⟩), pt_m0⟩ ⟨fun _ => go 1 (by omega) (fun q => ?_), trivial⟩
    obtain ⟨kk, kv⟩ := kv q
    rw [if_neg]
    rintro (z | z)
    · omega
    · have := (ps_is_iff.mp z).1
      omega
/-- an expression with d levels left -/
theorem ga_xM (hA : ps_A A N) : ∀ (d : Nat), d ≤ 6 → ∀ n, 10 + 7 * d ≤ n → ∀ σ, ga_K n 90 A N σ (ps_ex A N d σ) (6 - (d : Int))
  | 0, _, n, hn, σ => by
    obtain ⟨m, rfl⟩ : ∃ m, n = m + 1 := ⟨n - 1, by omega⟩
    exact ga_x0M (by omega)
  | d + 1, hd, n, hn, σ => by
    obtain ⟨m, rfl⟩ : ∃ m, n = m + 1 + 1 := ⟨n - 2, by omega⟩
    have ih := ga_xM hA d (by omega)
    have ea : (6 : Int) - ((d + 1 : Nat) : Int) = 5 - (d : Int) := by omega
    rw [ea]
    have hok : ∀ τ, ps_ok N τ (ps_ex A N d τ) := fun τ => ps_ok_ex hA d τ
    refine ga_loopM (B := ps_an A N (ps_ex A N d)) (o := ps_ow A N (-14)) (by omega) ga_ex_k (ga_b0 90 (by decide)).2 (by rw [ga_l_l.2.2.2.2.2]; rfl) (ga_b0 91 (by decide)) (by omega) (fun τ => ps_ow_og) (ga_cov2 (by decide +kernel)) (fun _ τ => ps_ok_an hA hok) (fun τ => ga_anM (by omega) (by omega) hok (fun k hk τ => ?_)) (fun r hr q hq => ?_)
    · have e : (5 : Int) - (d : Int) + 1 = 6 - (d : Int) := by omega
      rw [e]
      exact ih k (by omega) τ
    · rcases List.mem_singleton.mp hq with rfl
      show (0 : Int) ≤ r 392 ∧ r 392 ≤ 5
      omega
end GAX
noncomputable def ga_cL : List ai_V := ga_3 (wa_i 393)
noncomputable abbrev ga_c0 (cp : List (Nat × Int × Int)) (pc : Nat) (S : List ai_V) : Bool := ga_rw 89 [32, 46, 53] true 0 (ga_3 wa_u) cp pc (ga_3 wa_u) S []
noncomputable abbrev ga_c1 (cp : List (Nat × Int × Int)) : Bool := ga_rw 89 [32, 46, 53] true 0 (ga_3 wa_u) cp 53 ga_cL [wa_r 84] [(393, gz_p 43)]
theorem ga_cl_c : (ga_c0 [(42, (0, 1))] 32 [gz_n 1, wa_r 84] = true ∧ ga_c0 [(42, (3, 4))] 32 [gz_n 1, wa_r 84] = true ∧ ga_c0 [(42, (2, 2)), (43, (-17, -17))] 32 [gz_n 1, wa_r 84] = true ∧ ga_c0 [(42, (2, 2)), (43, (-14, -1))] 32 [gz_n 1, wa_r 84] = true) ∧
    (ga_c0 [(42, (2, 2)), (43, (-15, -15)), (392, (8, 8))] 46 [gz_n 2, wa_r 84] = true ∧ ga_c0 [(42, (2, 2)), (43, (-16, -16)), (392, (8, 8))] 46 [gz_n 2, wa_r 84] = true ∧ ga_c1 [(42, (2, 2)), (43, (-15, -15)), (392, (0, 7))] = true ∧ ga_c1 [(42, (2, 2)), (43, (-16, -16)), (392, (0, 7))] = true) ∧
    (ga_rw 89 [72] false 35 (ga_3 wa_u) [] 72 (ga_3 wa_u) [] [] = true ∧ ga_rw 89 [72] false 49 (ga_3 wa_u) [] 72 (ga_3 wa_u) [] [] = true ∧ ga_rw 89 [58] false 56 ga_cL [] 58 ga_cL [gz_n 0, wa_r 84] [] = true ∧ ga_rw 89 [64] false 61 ga_cL [] 64 ga_cL [gz_n 59, wa_r 84] [] = true ∧ ga_rw 89 [69] false 67 ga_cL [] 69 ga_cL [wa_i 393, wa_r 84] [] = true) ∧
    (ga_ck 89 32 98 (ga_3 wa_u) (0, 1) = true ∧ ga_ck 89 46 98 (ga_3 wa_u) (0, 2) = true ∧ ga_ca 89 53 ga_cL = true ∧ ga_ck 89 58 90 ga_cL (0, 0) = true ∧ ga_ck 89 64 97 ga_cL (0, 59) = true ∧ ga_ck 89 69 99 ga_cL (393, 0) = true) ∧ pt_is 7 89 72 = true ∧ (ct_mt 89).2.2.1 = 3 := by decide +kernel
section GAC
variable {A : Nat → Int} {N : Nat}
theorem ps_ok_cl (hA : ps_A A N) {i : Nat} {σ : ps_S} : ps_ok N σ (ps_cl A N i σ) := by
  unfold ps_cl
  split
  · rename_i h
    split
    · exact ps_ok_em (ps_o1_tr (ps_o1_av hA (by have := h.1; omega)) (ps_ok_tr (ps_ok_ex hA 6 _) (ps_ok_pa hA)))
    · exact ps_ok_fl (by omega)
  · exact ps_ok_fl (by omega)
theorem ga_cM {n i : Nat} (hn : 60 ≤ n) (hi : i ≤ 8) {σ : ps_S} (hσ : σ.2.2.1 = 0) : ga_K (n + 1) 89 A N σ (ps_cl A N i σ) i := by
  refine pt_intro (L0 := ga_3 wa_u) (ga_b0 89 (by decide)).2 (by omega) gasys (by
    rw [ga_cl_c.2.2.2.2.2]
    rfl) (fun P r M h hp => ?_)
  have h' := h
  obtain ⟨hseg, henv, -, -, -, -, -, -, -, -, -, -, -, hvret⟩ := h'
  obtain ⟨⟨hR, hz⟩, ha⟩ := hp
  obtain ⟨⟨c1, c2, c3, c4⟩, ⟨c5, c6, c7, c8⟩, ⟨c9, c10, c11, c12, c13⟩, ⟨k1, k2, k3, k4, k5, k6⟩, i1, -⟩ := ga_cl_c
  obtain ⟨h1, ⟨h2, h3, h4, h4'⟩, h5⟩ := id hR
  have hA := h1.2.1
  refine henv _ _ _ _ _ (fun hEE _ => ?_)
  have h00 : r 0 = 0 := hEE.1
  obtain ⟨⟨a1, a2, a3, a4⟩, a5, a6⟩ := h5 hσ
  have t4 := ps_tk4 (A := A) (n := N) (p := σ.1)
  have fin : ∀ L r2 M2, ga_R A N (ps_cl A N i σ) r2 M2 → ga_fr r M r2 M2 → P (72, 0, 0) L [] r2 M2 := fun L r2 M2 g1 g2 => hvret (72, 0, 0) _ r2 M2 rfl i1 (Nat.ble_eq_true_of_le (Nat.zero_le _)) (Nat.ble_eq_true_of_le (Nat.zero_le _)) ⟨rfl, g1, g2⟩
  have no : ¬ ps_hd A N σ → P (32, 0, 0) (ga_3 wa_u) [gz_n 1, wa_r 84] r M := fun w => by
    have e : ps_cl A N i σ = ps_fl A N 1 σ := by
      unfold ps_cl
      rw [if_neg w]
    show P (32, 0, 0) (ga_3 wa_u) (.inl (0, 1) :: wa_r 84 :: []) r M
    refine ga_useF (k := 1) h (by omega) (by omega) k1 hR (by show r 0 + 1 = 1; omega) (fun r2 M2 g1 g2 g3 => ?_)
    refine hseg _ _ _ _ _ r2 M2 _ _ _ _ _ c9 ⟨pt_m0, pt_m0, pt_m0⟩ ⟨fun _ => ?_, trivial⟩
    exact fin _ r2 M2 (by rw [e]; exact g1) g2
  by_cases t : ps_tk A N σ.1 = 2
  · have vl := a4 (by omega)
    have rg := (ps_vl_rg hA σ.1).2 t
    have kd : (2 : Int) ≤ r 42 ∧ r 42 ≤ 2 := by omega
    by_cases v : ps_vl A N σ.1 = -15 ∨ ps_vl A N σ.1 = -16
    · have hd : ps_hd A N σ := ⟨t, v⟩
      by_cases q8 : i < 8
      · have e : ps_cl A N i σ = ps_em (ps_vl A N σ.1) (ps_pa A N 59 (ps_ex A N 6 (ps_av A N σ))) := by
          unfold ps_cl
          rw [if_pos hd, if_pos q8]
        have m1 : (0 : Int) ≤ r 392 ∧ r 392 ≤ 7 := by omega
        have go : P (53, 0, 0) ga_cL [wa_r 84] (pt_up r [(393, gz_p 43)]) M := by
          obtain ⟨r1, hr1⟩ : ∃ r1, r1 = pt_up r [(393, gz_p 43)] := ⟨_, rfl⟩
          rw [← hr1]
          have n1 : ∀ t, t ≠ 393 → r1 t = r t := fun t x => by
            rw [hr1]
            exact if_neg x
          have v1 : r1 393 = ps_vl A N σ.1 := by
            rw [hr1]
            exact vl
          have ov := ps_o1_av (σ := σ) hA (by omega)
          have zav := ga_Zs_ok (ps_o1_ok ov) hz
          show P (53, 0, 0) ga_cL (wa_r 84 :: []) r1 M
          refine ga_useA h (by omega) k3 (ga_R_c (fun t ht => n1 t (by omega)) hR) hz hσ (fun r2 g1 g2 g3 => ?_)
          refine hseg _ _ _ _ _ r2 M _ _ _ _ _ c11 ⟨pt_m0, pt_m0, pt_m0⟩ ⟨fun _ => ?_, trivial⟩
          refine henv _ _ _ _ _ (fun hE2 _ => ?_)
          have z2 : r2 0 = 0 := hE2.1
          show P (58, 0, 0) ga_cL (.inl (0, 0) :: wa_r 84 :: []) r2 M
          refine ga_use h (ga_b0 90 (by decide)) k4 (ga_xM hA 6 (by omega) n (by omega) _) g1 zav (by show r2 0 + 0 = (6 : Int) - ((6 : Nat) : Int); omega) (fun r3 M3 g4 g5 g6 => ?_)
          refine hseg _ _ _ _ _ r3 M3 _ _ _ _ _ c12 ⟨pt_m0, pt_m0, pt_m0⟩ ⟨fun _ => ?_, trivial⟩
          refine henv _ _ _ _ _ (fun hE3 _ => ?_)
          have z3 : r3 0 = 0 := hE3.1
          show P (64, 0, 0) ga_cL (.inl (0, 59) :: wa_r 84 :: []) r3 M3
          obtain ⟨m, rfl⟩ : ∃ m, n = m + 1 := ⟨n - 1, by omega⟩
          refine ga_use h (ga_b0 97 (by decide)) k5 (ga_pM (A := A) (N := N) (σ := ps_ex A N 6 (ps_av A N σ)) (c := 59) (by omega) (Or.inr rfl)) g4 (ga_Zs_ok (ps_ok_ex hA 6 _) zav) (by show r3 0 + 59 = 59; omega) (fun r4 M4 g7 g8 g9 => ?_)
          refine hseg _ _ _ _ _ r4 M4 _ _ _ _ _ c13 ⟨pt_m0, pt_m0, pt_m0⟩ ⟨fun _ => ?_, trivial⟩
          show P (69, 0, 0) ga_cL (.inl (393, 0) :: wa_r 84 :: []) r4 M4
          have o1 := ps_o1_tr ov (ps_ok_tr (ps_ok_ex hA 6 _) (ps_ok_pa (c := 59) hA))
          refine ga_useE (c := ps_vl A N σ.1) h (by omega) k6 g7 (fun k => ?_) (by show r4 393 + 0 = _; rw [g9 _ (by omega) (by omega), g6 _ (by omega) (by omega), g3 _ (by omega), v1, Int.add_zero]) (fun r5 M5 b1 b2 b3 => ?_)
          · obtain ⟨w1, w2⟩ := o1 k
            obtain ⟨z1, z2⟩ := hz w1
            have := w2 z1
            have := hA.1
            omega
          · refine fin _ r5 M5 (by rw [e]; exact b1) ?_
            exact ⟨b2.1.trans (g8.1.trans (g5.1.trans (g2.1.trans (n1 _ (by omega))))), fun z hz => (b2.2 z hz).trans ((g8.2 z hz).trans ((g5.2 z hz).trans (g2.2 z hz)))⟩
        rcases v with v | v
        · exact hseg _ _ _ _ _ r M _ _ _ _ _ c7 ⟨pt_m0, pt_m3 kd ⟨by show (-15 : Int) ≤ r 43; omega, by show r 43 ≤ -15; omega⟩ m1, pt_m0⟩ ⟨fun _ => go, trivial⟩
        · exact hseg _ _ _ _ _ r M _ _ _ _ _ c8 ⟨pt_m0, pt_m3 kd ⟨by show (-16 : Int) ≤ r 43; omega, by show r 43 ≤ -16; omega⟩ m1, pt_m0⟩ ⟨fun _ => go, trivial⟩
      · have e : ps_cl A N i σ = ps_fl A N 2 σ := by
          unfold ps_cl
          rw [if_pos hd, if_neg q8]
        have m1 : (8 : Int) ≤ r 392 ∧ r 392 ≤ 8 := by omega
        have go : P (46, 0, 0) (ga_3 wa_u) [gz_n 2, wa_r 84] r M := by
          show P (46, 0, 0) (ga_3 wa_u) (.inl (0, 2) :: wa_r 84 :: []) r M
          refine ga_useF (k := 2) h (by omega) (by omega) k2 hR (by show r 0 + 2 = 2; omega) (fun r2 M2 g1 g2 g3 => ?_)
          refine hseg _ _ _ _ _ r2 M2 _ _ _ _ _ c10 ⟨pt_m0, pt_m0, pt_m0⟩ ⟨fun _ => ?_, trivial⟩
          exact fin _ r2 M2 (by rw [e]; exact g1) g2
        rcases v with v | v
        · exact hseg _ _ _ _ _ r M _ _ _ _ _ c5 ⟨pt_m0, pt_m3 kd ⟨by show (-15 : Int) ≤ r 43; omega, by show r 43 ≤ -15; omega⟩ m1, pt_m0⟩ ⟨fun _ => go, trivial⟩
        · exact hseg _ _ _ _ _ r M _ _ _ _ _ c6 ⟨pt_m0, pt_m3 kd ⟨by show (-16 : Int) ≤ r 43; omega, by show r 43 ≤ -16; omega⟩ m1, pt_m0⟩ ⟨fun _ => go, trivial⟩
    · have out := no (fun w => v w.2)
      rcases (by omega : ps_vl A N σ.1 = -17 ∨ -14 ≤ ps_vl A N σ.1) with w | w
      · exact hseg _ _ _ _ _ r M _ _ _ _ _ c3 ⟨pt_m0, pt_mc kd (pt_m1 ⟨by show (-17 : Int) ≤ r 43; omega, by show r 43 ≤ -17; omega⟩), pt_m0⟩ ⟨fun _ => out, trivial⟩
      · exact hseg _ _ _ _ _ r M _ _ _ _ _ c4 ⟨pt_m0, pt_mc kd (pt_m1 ⟨by show (-14 : Int) ≤ r 43; omega, by show r 43 ≤ -1; omega⟩), pt_m0⟩ ⟨fun _ => out, trivial⟩
  · have out := no (fun w => t w.1)
    rcases (by omega : ps_tk A N σ.1 ≤ 1 ∨ 3 ≤ ps_tk A N σ.1) with w | w
    · exact hseg _ _ _ _ _ r M _ _ _ _ _ c1 ⟨pt_m0, pt_m1 ⟨by show (0 : Int) ≤ r 42; omega, by show r 42 ≤ 1; omega⟩, pt_m0⟩ ⟨fun _ => out, trivial⟩
    · exact hseg _ _ _ _ _ r M _ _ _ _ _ c2 ⟨pt_m0, pt_m1 ⟨by show (3 : Int) ≤ r 42; omega, by show r 42 ≤ 4; omega⟩, pt_m0⟩ ⟨fun _ => out, trivial⟩
end GAC
