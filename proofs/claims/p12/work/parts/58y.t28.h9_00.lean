/-! TEXTS (the reference): loops of operations -/
noncomputable abbrev gb_rw (mi : Nat) (st : List Nat) (sk : Bool) (pc : Nat) (L S : List ai_V) (cp : List (Nat × Int × Int)) (pc2 : Nat) (L2 S2 : List ai_V) (W : List (Nat × pt_X)) : Bool := pt_row gbY mi st sk (pc, 0, 0) L S [] cp [] [] [((pc2, 0, 0), (L2, S2), W, [])]
noncomputable def gb_qc (c : Int) : List ai_V := gb_q (gz_n c)
noncomputable def gb_bS : List ai_V := [wa_i 392, wa_r 264]
noncomputable def gb_lt (mi mj : Nat) (q : Int × Int) : Bool := (gb_rw mi [39, 55] true 5 (gb_q wa_u) [] [(83, (0, 0)), (78, (3, 3)), (79, (q.1, q.1))] 39 (gb_qc (-5 - q.2)) [wa_r 264] [] && (gb_rw mi [44] false 42 (gb_qc (-5 - q.2)) [] [] 44 (gb_qc (-5 - q.2)) gb_bS [] && gb_rw mi [49] false 47 (gb_qc (-5 - q.2)) [] [] 49 (gb_qc (-5 - q.2)) [gz_n (-5 - q.2), wa_r 264] [])) &&
  ((gb_rw mi [5] false 52 (gb_qc (-5 - q.2)) [] [] 5 (gb_q wa_u) [] [] && gb_ca mi 39 (gb_qc (-5 - q.2))) && (gb_ck mi 44 mj (gb_qc (-5 - q.2)) (392, 0) && (gb_ck mi 49 194 (gb_qc (-5 - q.2)) (0, -5 - q.2) && (ai_le (-11) q.2 && ai_le q.2 (-6)))))
noncomputable def gb_lk (mi mj : Nat) (tests ivs : List (Int × Int)) : Bool := (gb_rw mi [2] true 0 (gb_q wa_u) [] [] 2 (gb_q wa_u) gb_bS [] && (gb_ck mi 2 mj (gb_q wa_u) (392, 0) && pt_is 7 mi 55)) &&
  ((gb_rw mi [39, 55] true 5 (gb_q wa_u) [] [(83, (1, 3))] 55 (gb_q wa_u) [] [] && (gb_rw mi [39, 55] true 5 (gb_q wa_u) [] [(83, (0, 0)), (78, (0, 2))] 55 (gb_q wa_u) [] [] && gb_rw mi [39, 55] true 5 (gb_q wa_u) [] [(83, (0, 0)), (78, (4, 4))] 55 (gb_q wa_u) [] [])) &&
  (ivs.all (fun z => gb_rw mi [39, 55] true 5 (gb_q wa_u) [] [(83, (0, 0)), (78, (3, 3)), (79, (z.1, z.2))] 55 (gb_q wa_u) [] []) && tests.all (gb_lt mi mj)))
theorem gb_pr_k : gb_lk 197 196 [(42, -8), (47, -9)] [(0, 41), (43, 46), (48, 255)] = true := by decide +kernel
theorem gb_su_k : gb_lk 198 197 [(43, -6), (45, -7)] [(0, 42), (44, 44), (46, 255)] = true := by decide +kernel
/-- at the text's end there is nothing more -/
theorem ps_end {A : Nat → Int} {N p : Nat} (hA : ps_A A N) (h1 : N ≤ p) (h2 : p ≤ N) : ps_tk A N p = 0 := by
  have := ps_st_le (A := A) h2
  exact ps_tk_end.mpr ((ps_c_end hA p).mpr (by omega))
theorem gb_tkr {A : Nat → Int} {N p : Nat} {r : Nat → Int} (h : r 78 = gb_km (ps_tk A N p)) : (ps_tk A N p = 3 → (3 : Int) ≤ r 78 ∧ r 78 ≤ 3) ∧ (ps_tk A N p = 4 → (4 : Int) ≤ r 78 ∧ r 78 ≤ 4) ∧ (ps_tk A N p ≤ 2 → (0 : Int) ≤ r 78 ∧ r 78 ≤ 2) := by
  have km := gb_km_v (t := ps_tk A N p)
  refine ⟨fun t => by rw [h, km.2.2.2.1 t]; omega, fun t => by rw [h, km.2.2.2.2 t]; omega, fun t => ?_⟩
  rcases (by omega : ps_tk A N p = 0 ∨ ps_tk A N p = 1 ∨ ps_tk A N p = 2) with w | w | w
  · rw [h, km.1 w]
    omega
  · rw [h, km.2.1 w]
    omega
  · rw [h, km.2.2.1 w]
    omega
section GBL
variable {n mi mj : Nat} {Z : (Nat → Int) → (Nat → Nat → Int) → Option Int → Prop} {P : pt_P} {A : Nat → Int} {N : Nat} {B : ps_S → ps_S} {a : Int} {tests ivs : List (Int × Int)} {r0 : Nat → Int} {M0 : Nat → Nat → Int} {τ : ps_S} {Q : Prop}
theorem gb_sloop (h : pt_Cl n mi gbY 0 Z P) (hn : 7 ≤ n) (ck : gb_lk mi mj tests ivs = true) (hb : ct_bud mj = (0, 0) ∧ lh_plain mj = true) (hA : ps_A A N) {o : ps_S → Int} (ho : ∀ τ, o τ = ps_og A N 3 tests τ)
    (hcov : ∀ p, ps_tk A N p = 3 → (∃ q ∈ tests, ps_vl A N p = q.1) ∨ ∃ z ∈ ivs, z.1 ≤ ps_vl A N p ∧ ps_vl A N p ≤ z.2) (hok : ∀ τ, ps_ok N τ (B τ)) (hE : Q → ∀ τ, gb_K n mj A N τ (B τ) a)
    (hzz : ∀ r2 M2, gb_R A N τ r2 M2 → gb_fr r0 M0 r2 M2 → Z r2 M2 none) :
    ∀ (f i : Nat) (σ : ps_S) (r : Nat → Int) (M : Nat → Nat → Int), i + f = 200 → (σ.2.2.1 = 0 → i ≤ σ.1 ∧ Q) → r 392 = a → gb_R A N σ r M → ga_Zs N σ → gb_fr r0 M0 r M → ps_lp A N o B f σ = τ → P (5, 0, 0) (gb_q wa_u) [] r M := by
  have h' := h
  obtain ⟨hseg, henv, -, -, -, -, -, -, -, -, -, -, -, hvret⟩ := h'
  unfold gb_lk at ck
  simp only [Bool.and_eq_true] at ck
  obtain ⟨⟨-, -, i1⟩, ⟨c1, c2, c3⟩, c4, c5⟩ := ck
  have fin : ∀ r2 M2, gb_R A N τ r2 M2 → gb_fr r0 M0 r2 M2 → P (55, 0, 0) (gb_q wa_u) [] r2 M2 := fun r2 M2 g1 g2 => hvret (55, 0, 0) _ r2 M2 rfl i1 (Nat.ble_eq_true_of_le (Nat.zero_le _)) (Nat.ble_eq_true_of_le (Nat.zero_le _)) (hzz r2 M2 g1 g2)
  have nz : ∀ q ∈ tests, q.2 ≠ 0 := fun q hq e => by
    have g := List.all_eq_true.mp c5 q hq
    unfold gb_lt at g
    simp only [Bool.and_eq_true] at g
    have := ai_le_iff.mp g.2.2.2.2.2
    omega
  -- no operation: out
  have out : ∀ (σ : ps_S) (r : Nat → Int) (M : Nat → Nat → Int), gb_R A N σ r M → gb_fr r0 M0 r M → σ = τ → (σ.2.2.1 = 0 → ps_og A N 3 tests σ = 0) → P (5, 0, 0) (gb_q wa_u) [] r M := fun σ r M hR hfr eq no => by
    subst eq
    obtain ⟨h1, ⟨h2, h3, h4, h4'⟩, h5⟩ := id hR
    by_cases q : σ.2.2.1 = 0
    · have k0 : (0 : Int) ≤ r 83 ∧ r 83 ≤ 0 := by omega
      obtain ⟨⟨⟨a1, a2, a3, a4⟩, a5, a6⟩, a7⟩ := h5 q
      obtain ⟨t3, t4, t2⟩ := gb_tkr a2
      have tt := ps_tk4 (A := A) (n := N) (p := σ.1)
      rcases (by omega : ps_tk A N σ.1 ≤ 2 ∨ ps_tk A N σ.1 = 3 ∨ ps_tk A N σ.1 = 4) with w | w | w
      · exact hseg _ _ _ _ _ r M _ _ _ _ _ c2 ⟨pt_m0, pt_mc k0 (pt_m1 (t2 w)), pt_m0⟩ ⟨fun _ => fin r M hR hfr, trivial⟩
      · have vl := a5 w
        rcases hcov σ.1 w with ⟨q', hq', e⟩ | ⟨z, hz', z1, z2⟩
        · exfalso
          have key : ∀ l : List (Int × Int), (∀ q ∈ l, q.2 ≠ 0) → q' ∈ l → ps_og A N 3 l σ ≠ 0 := fun l => by
            induction l with
            | nil => intro _ hq; cases hq
            | cons p l ih =>
              intro hl hq
              unfold ps_og
              by_cases x : ps_tk A N σ.1 = 3 ∧ ps_vl A N σ.1 = p.1
              · rw [if_pos x]
                exact hl p List.mem_cons_self
              · rw [if_neg x]
                rcases List.mem_cons.mp hq with rfl | hq
                · exact absurd ⟨w, e⟩ x
                · exact ih (fun z hz => hl z (List.mem_cons_of_mem _ hz)) hq
          exact key tests nz hq' (no q)
        · exact hseg _ _ _ _ _ r M _ _ _ _ _ (List.all_eq_true.mp c4 z hz') ⟨pt_m0, pt_m3 k0 (t3 w) ⟨by show z.1 ≤ r 79; omega, by show r 79 ≤ z.2; omega⟩, pt_m0⟩ ⟨fun _ => fin r M hR hfr, trivial⟩
      · exact hseg _ _ _ _ _ r M _ _ _ _ _ c3 ⟨pt_m0, pt_mc k0 (pt_m1 (t4 w)), pt_m0⟩ ⟨fun _ => fin r M hR hfr, trivial⟩
    · exact hseg _ _ _ _ _ r M _ _ _ _ _ c1 ⟨pt_m0, pt_m1 ⟨by show (1 : Int) ≤ r 83; omega, by show r 83 ≤ 3; omega⟩, pt_m0⟩ ⟨fun _ => fin r M hR hfr, trivial⟩
  intro f
  induction f with
  | zero =>
    intro i σ r M hi hp e1 hR hz hfr eq
    have eq : σ = τ := eq
    refine out σ r M hR hfr eq (fun q => ps_og_no (fun q' _ w => ?_))
    have := ps_end hA (p := σ.1) (by have := (hp q).1; have := hA.1; omega) (hz q).1
    omega
  | succ f ih =>
    intro i σ r M hi hp e1 hR hz hfr eq
    unfold ps_lp at eq
    by_cases w : σ.2.2.1 = 0 ∧ ps_og A N 3 tests σ ≠ 0
    · rw [if_pos (by rw [ho]; exact w), ho] at eq
      obtain ⟨q, hq, ⟨qt, qv⟩, qo⟩ := ps_og_in w.2
      obtain ⟨hp1, hQ⟩ := hp w.1
      obtain ⟨h1, ⟨h2, h3, h4, h4'⟩, h5⟩ := id hR
      obtain ⟨⟨⟨a1, a2, a3, a4⟩, a5, a6⟩, a7⟩ := h5 w.1
      obtain ⟨t3, -, -⟩ := gb_tkr a2
      have vl := a5 qt
      have z1 := (hz w.1).1
      have ck5 := List.all_eq_true.mp c5 q hq
      unfold gb_lt at ck5
      simp only [Bool.and_eq_true] at ck5
      obtain ⟨⟨d1, d2, d3⟩, ⟨d4, d5⟩, d6, d7, d8, d9⟩ := ck5
      have d8 := ai_le_iff.mp d8
      have d9 := ai_le_iff.mp d9
      have oav := ps_o1_av (σ := σ) hA (by omega)
      have zav := ga_Zs_ok (ps_o1_ok oav) hz
      have enl := ps_en_le hA z1 (by omega : ps_tk A N σ.1 ≠ 0)
      have stl := ps_st_le (A := A) z1
      refine hseg _ _ _ _ _ r M _ _ _ _ _ d1 ⟨pt_m0, pt_m3 (by show (0 : Int) ≤ r 83 ∧ r 83 ≤ 0; omega) (t3 qt) ⟨by show q.1 ≤ r 79; omega, by show r 79 ≤ q.1; omega⟩, pt_m0⟩ ⟨fun _ => ?_, trivial⟩
      show P (39, 0, 0) (gb_qc (-5 - q.2)) (wa_r 264 :: []) r M
      refine gb_useA h (by omega) d5 hR z1 w.1 (fun r2 g1 g2 g3 => ?_)
      refine hseg _ _ _ _ _ r2 M _ _ _ _ _ d2 ⟨pt_m0, pt_m0, pt_m0⟩ ⟨fun _ => ?_, trivial⟩
      show P (44, 0, 0) (gb_qc (-5 - q.2)) (.inl (392, 0) :: wa_r 264 :: []) r2 M
      refine gb_use h hb d6 (hE hQ _) g1 zav (by show r2 392 + 0 = a; rw [g3 _ (by omega), e1, Int.add_zero]) (fun r3 M3 g4 g5 g6 => ?_)
      refine hseg _ _ _ _ _ r3 M3 _ _ _ _ _ d3 ⟨pt_m0, pt_m0, pt_m0⟩ ⟨fun _ => ?_, trivial⟩
      refine henv _ _ _ _ _ (fun hE3 _ => ?_)
      have z3 : r3 0 = 0 := hE3.1
      show P (49, 0, 0) (gb_qc (-5 - q.2)) (.inl (0, -5 - q.2) :: wa_r 264 :: []) r3 M3
      have o1 := ps_o1_tr oav (hok (ps_av A N σ))
      have ec : gb_enc q.2 = [-5 - q.2] := (if_neg (by omega)).trans ((if_neg (by omega)).trans (if_pos (by omega)))
      refine gb_useE (c := q.2) h (by omega) ec d7 g4 (fun k => ?_) (by show r3 0 + (-5 - q.2) = -5 - q.2; omega) (fun r4 M4 g7 g8 g9 => ?_)
      · obtain ⟨w1, w2⟩ := o1 k
        obtain ⟨y1, y2⟩ := hz w1
        have := w2 y1
        have := hA.1
        omega
      · refine hseg _ _ _ _ _ r4 M4 _ _ _ _ _ d4 ⟨pt_m0, pt_m0, pt_m0⟩ ⟨fun _ => ?_, trivial⟩
        rw [qo] at eq
        refine ih (i + 1) _ r4 M4 (by omega) (fun k => ⟨?_, hQ⟩) (by rw [g9 _ (by omega) (by omega), g6 _ (by omega) (by omega), g3 _ (by omega), e1]) g7 (ga_Zs_ok (ps_ok_em o1) hz) (((hfr.tr g2).tr g5).tr g8) eq
        have k : (B (ps_av A N σ)).2.2.1 = 0 := k
        obtain ⟨y1, y2⟩ := hok (ps_av A N σ) k
        have y3 := y2 enl.2
        show i + 1 ≤ (B (ps_av A N σ)).1
        have : (ps_av A N σ).1 = ps_en A N σ.1 := rfl
        omega
    · rw [if_neg (by rw [ho]; exact w)] at eq
      refine out σ r M hR hfr eq (fun q => ?_)
      by_cases e : ps_og A N 3 tests σ = 0
      · exact e
      · exact absurd ⟨q, e⟩ w
end GBL
theorem gb_loopM {n mi mj : Nat} {A : Nat → Int} {N : Nat} {B : ps_S → ps_S} {a : Int} {tests ivs : List (Int × Int)} {σ : ps_S} (hn : 7 ≤ n) (ck : gb_lk mi mj tests ivs = true) (hpl : lh_plain mi = true) (hL0 : ai_pad (ct_mt mi).2.2.1 [wa_r 264, wa_i 392] = some (gb_q wa_u)) (hb : ct_bud mj = (0, 0) ∧ lh_plain mj = true) {o : ps_S → Int} (ho : ∀ τ, o τ = ps_og A N 3 tests τ)
    (hcov : ps_A A N → ∀ p, ps_tk A N p = 3 → (∃ q ∈ tests, ps_vl A N p = q.1) ∨ ∃ z ∈ ivs, z.1 ≤ ps_vl A N p ∧ ps_vl A N p ≤ z.2) (hok : ps_A A N → ∀ τ, ps_ok N τ (B τ)) (hE : ∀ τ, (τ.2.2.1 = 0 → σ.2.2.1 = 0) → gb_K n mj A N τ (B τ) a) : gb_K (n + 1) mi A N σ (ps_lp A N o B 200 (B σ)) a := by
  refine pt_intro (L0 := gb_q wa_u) hpl (by omega) gbsys hL0 (fun P r M h hp => ?_)
  have h' := h
  obtain ⟨hseg, -⟩ := h'
  obtain ⟨⟨hR, hz⟩, ha⟩ := hp
  have hA := hR.1.2.1
  have ck' := ck
  unfold gb_lk at ck'
  simp only [Bool.and_eq_true] at ck'
  obtain ⟨⟨c1, c2, -⟩, -⟩ := ck'
  refine hseg _ _ _ _ _ r M _ _ _ _ _ c1 ⟨pt_m0, pt_m0, pt_m0⟩ ⟨fun _ => ?_, trivial⟩
  show P (2, 0, 0) (gb_q wa_u) (.inl (392, 0) :: wa_r 264 :: []) r M
  refine gb_use h hb c2 (hE σ id) hR hz (by show r 392 + 0 = a; omega) (fun r2 M2 g1 g2 g3 => ?_)
  exact gb_sloop (r0 := r) (M0 := M) (B := B) (a := a) (Q := σ.2.2.1 = 0) h hn ck hb hA ho (hcov hA) (hok hA) (fun hq τ => hE τ (fun _ => hq)) (fun r2 M2 g1 g2 => ⟨rfl, g1, g2⟩) 200 0 (B σ) r2 M2 (by omega) (fun k => ⟨Nat.zero_le _, (hok hA σ k).1⟩) (by rw [g3 _ (by omega) (by omega), ha]) g1 (ga_Zs_ok (hok hA σ) hz) g2 rfl
theorem gb_l_l : (ct_mt 197).2.2.1 = 3 ∧ (ct_mt 198).2.2.1 = 3 ∧ (ct_mt 199).2.2.1 = 4 ∧ (ct_mt 200).2.2.1 = 2 ∧ (ct_mt 201).2.2.1 = 3 := by decide +kernel
section GBO
variable {A : Nat → Int} {N n : Nat} {E : ps_S → ps_S} {a : Int} {σ : ps_S}
theorem gb_prM (hn : 10 ≤ n) (hok : ∀ σ, ps_ok N σ (E σ)) (hE : σ.2.2.1 = 0 → (0 ≤ a ∧ a ≤ 5) ∧ ∀ m, n = m + 1 → ∀ τ, gb_K m 201 A N τ (E τ) (a + 1)) : gb_K (n + 1) 197 A N σ (ps_pr A N E σ) a := by
  obtain ⟨m, rfl⟩ : ∃ m, n = m + 1 := ⟨n - 1, by omega⟩
  exact gb_loopM (B := ps_pt A N E) (by omega) gb_pr_k (gb_b0 197 (by decide)).2 (by rw [gb_l_l.1]; rfl) (gb_b0 196 (by decide)) (fun τ => ps_op_og) (ga_cov3 (by decide +kernel)) (fun hA τ => ps_ok_pt hA hok) (fun τ hq => gb_qM (by omega) hok (fun k => ⟨(hE (hq k)).1, (hE (hq k)).2 m rfl⟩))
theorem gb_suM (hn : 11 ≤ n) (hok : ∀ σ, ps_ok N σ (E σ)) (hE : σ.2.2.1 = 0 → (0 ≤ a ∧ a ≤ 5) ∧ ∀ m, n = m + 2 → ∀ τ, gb_K m 201 A N τ (E τ) (a + 1)) : gb_K (n + 1) 198 A N σ (ps_su A N E σ) a := by
  obtain ⟨m, rfl⟩ : ∃ m, n = m + 1 := ⟨n - 1, by omega⟩
  exact gb_loopM (B := ps_pr A N E) (by omega) gb_su_k (gb_b0 198 (by decide)).2 (by rw [gb_l_l.2.1]; rfl) (gb_b0 197 (by decide)) (fun τ => ps_op_og) (ga_cov3 (by decide +kernel)) (fun hA τ => ps_ok_pr hA hok) (fun τ hq => gb_prM (by omega) hok (fun k => ⟨(hE (hq k)).1, fun j hj => (hE (hq k)).2 j (by omega)⟩))
end GBO
