/-! TEXTS (the reference): readNot -/
section PSI
variable {A : Nat → Int} {N : Nat} {E : ps_S → ps_S} {σ : ps_S}
theorem ps_lp_id {o : ps_S → Int} {B : ps_S → ps_S} (h : σ.2.2.1 ≠ 0) : ∀ f, ps_lp A N o B f σ = σ
  | 0 => rfl
  | f + 1 => by
    unfold ps_lp
    rw [if_neg (fun w => h w.1)]
theorem ps_pt_id (h : σ.2.2.1 ≠ 0) : ps_pt A N E σ = σ := if_neg h
theorem ps_pr_id (h : σ.2.2.1 ≠ 0) : ps_pr A N E σ = σ := by
  unfold ps_pr
  rw [ps_pt_id h]
  exact ps_lp_id h _
theorem ps_su_id (h : σ.2.2.1 ≠ 0) : ps_su A N E σ = σ := by
  unfold ps_su
  rw [ps_pr_id h]
  exact ps_lp_id h _
theorem ps_co_id (h : σ.2.2.1 ≠ 0) : ps_co A N E σ = σ := by
  unfold ps_co
  rw [ps_su_id h]
  exact ps_lp_id h _
theorem ps_nt_id (h : σ.2.2.1 ≠ 0) : ∀ f, ps_nt A N f σ = (σ, 0)
  | 0 => by
    unfold ps_nt
    rw [if_neg (fun w => h w.1)]
  | f + 1 => by
    unfold ps_nt
    rw [if_neg (fun w => h w.1)]
theorem ps_ne_id (h : σ.2.2.1 ≠ 0) : ps_ne A N E σ = σ := by
  unfold ps_ne
  rw [ps_nt_id h]
  exact ps_co_id h
theorem ps_an_id (h : σ.2.2.1 ≠ 0) : ps_an A N E σ = σ := by
  unfold ps_an
  rw [ps_ne_id h]
  exact ps_lp_id h _
end PSI
theorem gb_R_rp {A : Nat → Int} {N : Nat} {r : Nat → Int} {M : Nat → Nat → Int} {k : Nat} {υ : ps_S} (h : gb_R A N υ r M) (hf : υ.2.2.1 ≠ 0) : gb_R A N (ps_rp k υ) r M := by
  have v := (ps_rp_v k υ).2.2
  refine ⟨h.1, ⟨by rw [v]; exact h.2.1.1, fun w => by rw [v]; exact h.2.1.2.1 hf, by rw [v]; exact h.2.1.2.2.1, by rw [v]; exact h.2.1.2.2.2⟩, fun k => ?_⟩
  rw [v] at k
  exact absurd k hf
noncomputable def gb_4 (u v : ai_V) : List ai_V := [wa_r 264, wa_i 392, u, v]
noncomputable def gb_n1 : List ai_V := gb_4 (wa_i 393) wa_u
noncomputable def gb_n2 : List ai_V := gb_4 (wa_i 393) (wa_i 394)
noncomputable def gb_nc (c : Int) : List ai_V := gb_4 (wa_i 393) (gz_n c)
noncomputable def gb_nR : List ai_V := [rd_ref 6, wa_r 264]
noncomputable def gb_nt (q : Int × Int) : Bool := (gb_rw 199 [74, 89] true 39 gb_n1 [] [(83, (0, 0)), (78, (3, 3)), (79, (q.1, q.1))] 74 (gb_nc (-5 - q.2)) [wa_r 264] [] && (gb_rw 199 [79] false 77 (gb_nc (-5 - q.2)) [] [] 79 (gb_nc (-5 - q.2)) gb_bS [] && gb_rw 199 [84] false 82 (gb_nc (-5 - q.2)) [] [] 84 (gb_nc (-5 - q.2)) [gz_n (-5 - q.2), wa_r 264] [])) &&
  (gb_ca 199 74 (gb_nc (-5 - q.2)) && (gb_ck 199 79 198 (gb_nc (-5 - q.2)) (392, 0) && (gb_ck 199 84 194 (gb_nc (-5 - q.2)) (0, -5 - q.2) && (gb_rw 199 [89] false 87 (gb_nc (-5 - q.2)) [] [] 89 gb_n2 [] [(394, gz_k 0)] && (ai_le (-11) q.2 && ai_le q.2 (-6))))))
noncomputable def gb_ni : List (Int × Int) := [(0, 59), (62, 255)]
theorem gb_ne_c : gb_rw 199 [6] true 0 (gb_4 wa_u wa_u) [] [] 6 gb_n1 gb_nR [(393, gz_k 0)] = true ∧
    (gb_rw 199 [23, 28, 36] false 9 gb_n1 [wa_i 471] [(471, (1, 1)), (393, (6, 6)), (83, (0, 0))] 23 gb_n1 [] (gb_bad 2) = true ∧ gb_rw 199 [23, 28, 36] false 9 gb_n1 [wa_i 471] [(471, (1, 1)), (393, (0, 5))] 28 gb_n1 [wa_r 264] [(393, gz_d 393 1)] = true ∧ gb_rw 199 [23, 28, 36] false 9 gb_n1 [wa_i 471] [(471, (0, 0))] 36 gb_n1 gb_bS [] = true ∧ gb_rw 199 [6] false 31 gb_n1 [] [] 6 gb_n1 gb_nR [] = true) ∧
    (gb_rw 199 [74, 89] true 39 gb_n1 [] [(83, (1, 3))] 89 gb_n2 [] [(394, gz_k 0)] = true ∧ gb_rw 199 [74, 89] true 39 gb_n1 [] [(83, (0, 0)), (78, (0, 2))] 89 gb_n2 [] [(394, gz_k 0)] = true ∧ gb_rw 199 [74, 89] true 39 gb_n1 [] [(83, (0, 0)), (78, (4, 4))] 89 gb_n2 [] [(394, gz_k 0)] = true ∧ gb_ni.all (fun z => gb_rw 199 [74, 89] true 39 gb_n1 [] [(83, (0, 0)), (78, (3, 3)), (79, (z.1, z.2))] 89 gb_n2 [] [(394, gz_k 0)]) = true) ∧
    ([((60 : Int), (-10 : Int)), (61, -11)].all gb_nt = true) ∧
    (pt_row gbY 199 [97, 106] true (89, 0, 0) gb_n2 [] [] [(393, (0, 6)), (394, (0, 6))] [((394, 1), (393, 0))] [] [((97, 0, 0), (gb_n2, [gz_n 9, wa_r 264]), [], [])] = true ∧ pt_row gbY 199 [97, 106] true (89, 0, 0) gb_n2 [] [] [(393, (0, 6)), (394, (0, 6))] [((393, 0), (394, 0))] [] [((106, 0, 0), (gb_n2, []), [], [])] = true ∧ gb_rw 199 [89] false 100 gb_n2 [] [(394, (0, 6))] 89 gb_n2 [] [(394, gz_d 394 1)] = true) ∧
    ((cy_vk 199 6 191 gbY.2.1 gb_nR [wa_r 264, rd_ref 6] [] && pt_cck gbY 199 191 (6, 0, 0) 1 471 gb_n1 [] [wa_r 264, rd_ref 6] [wa_r 264, rd_ref 6]) = true ∧ gb_ca 199 28 gb_n1 = true ∧ gb_ck 199 36 198 gb_n1 (392, 0) = true ∧ gb_ck 199 97 194 gb_n2 (0, 9) = true) ∧ pt_is 7 199 23 = true ∧ pt_is 7 199 106 = true := by decide +kernel
section GBN
variable {n : Nat} {Z : (Nat → Int) → (Nat → Nat → Int) → Option Int → Prop} {P : pt_P} {A : Nat → Int} {N : Nat} {r0 : Nat → Int} {M0 : Nat → Nat → Int} {a : Int}
theorem gb_nl1 (h : pt_Cl n 199 gbY 0 Z P) (hn : 7 ≤ n) : ∀ (f i : Nat) (σ : ps_S) (r : Nat → Int) (M : Nat → Nat → Int), i + f = 6 → r 393 = (i : Int) → r 392 = a → gb_R A N σ r M → ga_Zs N σ → gb_fr r0 M0 r M →
    (∀ r2 M2, r2 393 = ((i + (ps_nt A N f σ).2 : Nat) : Int) → r2 392 = a → gb_R A N (ps_nt A N f σ).1 r2 M2 → gb_fr r0 M0 r2 M2 → P (36, 0, 0) gb_n1 gb_bS r2 M2) →
    (∀ r2 M2, (ps_nt A N f σ).1.2.2.1 ≠ 0 → gb_R A N (ps_nt A N f σ).1 r2 M2 → gb_fr r0 M0 r2 M2 → P (23, 0, 0) gb_n1 [] r2 M2) → P (6, 0, 0) gb_n1 gb_nR r M := by
  have h' := h
  obtain ⟨hseg, henv, -⟩ := h'
  obtain ⟨-, ⟨c1, c2, c3, c4⟩, -, -, -, ⟨k1, k2, -, -⟩, -⟩ := gb_ne_c
  have w5 : ps_wc 5 = -12 := by decide
  intro f
  induction f with
  | zero =>
    intro i σ r M hi e2 e1 hR hz hfr kk kb
    refine gb_icall (k := 5) (S' := []) h (by omega) (by omega) k1 hR hz (fun q y r3 s3 f3 => ?_) (fun y r3 s3 f3 => ?_)
    · rw [w5] at y
      have e : ps_nt A N 0 σ = (ps_fl A N 2 σ, 0) := by
        unfold ps_nt
        rw [if_pos ⟨q, y⟩]
      rw [e] at kb
      have R3 := gb_R_c (fun t ht => f3 t (by omega)) hR
      obtain ⟨g1, g2, -⟩ := gb_R_bad (k := 2) (by omega) R3 q rfl
      have bd3 : r3 83 = 0 := R3.2.1.1.trans q
      refine hseg _ _ _ _ _ r3 M _ _ _ _ _ c1 ⟨pt_m0, pt_m3 ⟨by show (1 : Int) ≤ r3 471; omega, by show r3 471 ≤ 1; omega⟩ ⟨by show (6 : Int) ≤ r3 393; rw [f3 _ (by omega)]; omega, by show r3 393 ≤ 6; rw [f3 _ (by omega)]; omega⟩ ⟨by show (0 : Int) ≤ r3 83; omega, by show r3 83 ≤ 0; omega⟩, pt_m0⟩ ⟨fun _ => ?_, trivial⟩
      refine kb _ M ?_ g1 ((hfr.cg (fun t ht => f3 t (by omega))).tr g2)
      unfold ps_fl
      rw [if_pos q]
      show (2 : Int) ≠ 0
      omega
    · rw [w5] at y
      have e : ps_nt A N 0 σ = (σ, 0) := by
        unfold ps_nt
        rw [if_neg y]
      rw [e] at kk
      refine hseg _ _ _ _ _ r3 M _ _ _ _ _ c3 ⟨pt_m0, pt_m1 ⟨by show (0 : Int) ≤ r3 471; omega, by show r3 471 ≤ 0; omega⟩, pt_m0⟩ ⟨fun _ => ?_, trivial⟩
      exact kk r3 M ((f3 _ (by omega)).trans e2) ((f3 _ (by omega)).trans e1) (gb_R_c (fun t ht => f3 t (by omega)) hR) (hfr.cg (fun t ht => f3 t (by omega)))
  | succ f ih =>
    intro i σ r M hi e2 e1 hR hz hfr kk kb
    have hA := hR.1.2.1
    refine gb_icall (k := 5) (S' := []) h (by omega) (by omega) k1 hR hz (fun q y r3 s3 f3 => ?_) (fun y r3 s3 f3 => ?_)
    · rw [w5] at y
      have e : ps_nt A N (f + 1) σ = ((ps_nt A N f (ps_av A N σ)).1, (ps_nt A N f (ps_av A N σ)).2 + 1) := by
        conv => lhs; unfold ps_nt
        rw [if_pos ⟨q, y⟩]
      rw [e] at kk kb
      refine hseg _ _ _ _ _ r3 M _ _ _ _ _ c2 ⟨pt_m0, pt_mc ⟨by show (1 : Int) ≤ r3 471; omega, by show r3 471 ≤ 1; omega⟩ (pt_m1 ⟨by show (0 : Int) ≤ r3 393; rw [f3 _ (by omega)]; omega, by show r3 393 ≤ 5; rw [f3 _ (by omega)]; omega⟩), pt_m0⟩ ⟨fun _ => ?_, trivial⟩
      obtain ⟨r4, hr4⟩ : ∃ r4, r4 = pt_up r3 [(393, gz_d 393 1)] := ⟨_, rfl⟩
      show P (28, 0, 0) gb_n1 (wa_r 264 :: []) (pt_up r3 [(393, gz_d 393 1)]) M
      rw [← hr4]
      have n4 : ∀ t, t ≠ 393 → r4 t = r3 t := fun t ht => by
        rw [hr4]
        exact if_neg ht
      have v4 : r4 393 = (i : Int) + 1 := by
        rw [hr4]
        show r3 393 + 1 = _
        rw [f3 _ (by omega), e2]
      have l4 : ∀ t, t < 391 → r4 t = r t := fun t ht => (n4 t (by omega)).trans (f3 t (by omega))
      have t2 := (ps_iw_iff.mp y).1
      refine gb_useA h (by omega) k2 (gb_R_c l4 hR) (hz q).1 q (fun r5 g1 g2 g3 => ?_)
      refine hseg _ _ _ _ _ r5 M _ _ _ _ _ c4 ⟨pt_m0, pt_m0, pt_m0⟩ ⟨fun _ => ?_, trivial⟩
      refine ih (i + 1) _ r5 M (by omega) (by rw [g3 _ (by omega), v4]; omega) (by rw [g3 _ (by omega), n4 _ (by omega), f3 _ (by omega), e1]) g1 (ga_Zs_ok (ps_o1_ok (ps_o1_av (σ := σ) hA (by omega))) hz) ((hfr.cg l4).tr g2) (fun r6 M6 b1 b2 b3 b4 => ?_) kb
      exact kk r6 M6 (by rw [b1]; show (((i + 1 + _ : Nat)) : Int) = ((i + (_ + 1) : Nat) : Int); omega) b2 b3 b4
    · rw [w5] at y
      have e : ps_nt A N (f + 1) σ = (σ, 0) := by
        unfold ps_nt
        rw [if_neg y]
      rw [e] at kk
      refine hseg _ _ _ _ _ r3 M _ _ _ _ _ c3 ⟨pt_m0, pt_m1 ⟨by show (0 : Int) ≤ r3 471; omega, by show r3 471 ≤ 0; omega⟩, pt_m0⟩ ⟨fun _ => ?_, trivial⟩
      exact kk r3 M ((f3 _ (by omega)).trans e2) ((f3 _ (by omega)).trans e1) (gb_R_c (fun t ht => f3 t (by omega)) hR) (hfr.cg (fun t ht => f3 t (by omega)))
theorem gb_nl2 (h : pt_Cl n 199 gbY 0 Z P) (hn : 7 ≤ n) {τ : ps_S} (hzz : ∀ r2 M2, gb_R A N τ r2 M2 → gb_fr r0 M0 r2 M2 → Z r2 M2 none) : ∀ (f j k : Nat) (υ : ps_S) (r : Nat → Int) (M : Nat → Nat → Int), j + f = k → k ≤ 6 → r 394 = (j : Int) → r 393 = (k : Int) → gb_R A N υ r M → (υ.2.2.1 = 0 → υ.2.1.length + f ≤ 200) → gb_fr r0 M0 r M → ps_rp f υ = τ → P (89, 0, 0) gb_n2 [] r M := by
  have h' := h
  obtain ⟨hseg, henv, -, -, -, -, -, -, -, -, -, -, -, hvret⟩ := h'
  obtain ⟨-, -, -, -, ⟨c2, c3, c1⟩, ⟨-, -, -, k4⟩, -, i1⟩ := gb_ne_c
  intro f
  induction f with
  | zero =>
    intro j k υ r M hi hk e3 e2 hR hl hfr eq
    have eq : υ = τ := eq
    subst eq
    refine hseg _ _ _ _ _ r M _ _ _ _ _ c3 ⟨pt_m0, pt_mc ⟨by show (0 : Int) ≤ r 393; omega, by show r 393 ≤ (6 : Int); omega⟩ (pt_m1 ⟨by show (0 : Int) ≤ r 394; omega, by show r 394 ≤ (6 : Int); omega⟩), pt_m1 (by show r 393 + 0 ≤ r 394 + 0; omega)⟩ ⟨fun _ => ?_, trivial⟩
    exact hvret (106, 0, 0) _ r M rfl i1 (Nat.ble_eq_true_of_le (Nat.zero_le _)) (Nat.ble_eq_true_of_le (Nat.zero_le _)) (hzz r M hR hfr)
  | succ f ih =>
    intro j k υ r M hi hk e3 e2 hR hl hfr eq
    refine hseg _ _ _ _ _ r M _ _ _ _ _ c2 ⟨pt_m0, pt_mc ⟨by show (0 : Int) ≤ r 393; omega, by show r 393 ≤ (6 : Int); omega⟩ (pt_m1 ⟨by show (0 : Int) ≤ r 394; omega, by show r 394 ≤ (6 : Int); omega⟩), pt_m1 (by show r 394 + 1 ≤ r 393 + 0; omega)⟩ ⟨fun _ => ?_, trivial⟩
    refine henv _ _ _ _ _ (fun hE _ => ?_)
    have z0 : r 0 = 0 := hE.1
    show P (97, 0, 0) gb_n2 (.inl (0, 9) :: wa_r 264 :: []) r M
    have ec : gb_enc (-12) = [9] := by decide
    refine gb_useE (c := -12) h (by omega) ec k4 hR (fun w => by have := hl w; omega) (by show r 0 + 9 = 9; omega) (fun r2 M2 g1 g2 g3 => ?_)
    refine hseg _ _ _ _ _ r2 M2 _ _ _ _ _ c1 ⟨pt_m0, pt_m1 ⟨by show (0 : Int) ≤ r2 394; rw [g3 _ (by omega) (by omega)]; omega, by show r2 394 ≤ 6; rw [g3 _ (by omega) (by omega)]; omega⟩, pt_m0⟩ ⟨fun _ => ?_, trivial⟩
    obtain ⟨r3, hr3⟩ : ∃ r3, r3 = pt_up r2 [(394, gz_d 394 1)] := ⟨_, rfl⟩
    show P (89, 0, 0) gb_n2 [] (pt_up r2 [(394, gz_d 394 1)]) M2
    rw [← hr3]
    have n3 : ∀ t, t ≠ 394 → r3 t = r2 t := fun t ht => by
      rw [hr3]
      exact if_neg ht
    have v3 : r3 394 = (j : Int) + 1 := by
      rw [hr3]
      show r2 394 + 1 = _
      rw [g3 _ (by omega) (by omega), e3]
    refine ih (j + 1) k (ps_em (-12) υ) r3 M2 (by omega) hk (by rw [v3]; omega) (by rw [n3 _ (by omega), g3 _ (by omega) (by omega), e2]) (gb_R_c (fun t ht => n3 t (by omega)) g1) (fun w => ?_) ((hfr.tr g2).cg (fun t ht => n3 t (by omega))) eq
    have := hl w
    show (υ.2.1 ++ [-12]).length + f ≤ 200
    rw [List.length_append, List.length_singleton]
    omega
end GBN
