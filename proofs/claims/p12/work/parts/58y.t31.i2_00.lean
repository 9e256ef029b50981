/-! TEXTS (the reference): readAnd, readExpression -/
noncomputable def gb_wk (mi mj k : Nat) (c' : Int) (hd wp yp inn em ex : Nat) (L : List ai_V) : Bool := (gb_rw mi [wp] true hd L [] [] wp L [rd_ref (k + 1), wa_r 264] [] && (gb_rw mi [yp, ex] false (wp + 3) L [wa_i 471] [(471, (1, 1))] yp L [wa_r 264] [] && gb_rw mi [yp, ex] false (wp + 3) L [wa_i 471] [(471, (0, 0))] ex L [] [])) &&
  ((gb_rw mi [inn] false (yp + 3) L [] [] inn L gb_bS [] && (gb_rw mi [em] false (inn + 3) L [] [] em L [gz_n c', wa_r 264] [] && gb_rw mi [wp] false (em + 3) L [] [] wp L [rd_ref (k + 1), wa_r 264] [])) &&
  (((cy_vk mi wp 191 gbY.2.1 [rd_ref (k + 1), wa_r 264] [wa_r 264, rd_ref (k + 1)] [] && pt_cck gbY mi 191 (wp, 0, 0) 1 471 L [] [wa_r 264, rd_ref (k + 1)] [wa_r 264, rd_ref (k + 1)]) && gb_ca mi yp L) && (gb_ck mi inn mj L (392, 0) && (gb_ck mi em 194 L (0, c') && pt_is 7 mi ex))))
section GBV
variable {n mi mj k : Nat} {Z : (Nat → Int) → (Nat → Nat → Int) → Option Int → Prop} {P : pt_P} {A : Nat → Int} {N : Nat} {B : ps_S → ps_S} {a w c' : Int} {hd wp yp inn em ex : Nat} {L : List ai_V} {r0 : Nat → Int} {M0 : Nat → Nat → Int} {τ : ps_S} {Q : Prop}
theorem gb_wloop (h : pt_Cl n mi gbY 0 Z P) (hn : 7 ≤ n) (ck : gb_wk mi mj k c' hd wp yp inn em ex L = true) (hb : ct_bud mj = (0, 0) ∧ lh_plain mj = true) (hk : k < 10) (hw : ps_wc k = w) (hw0 : w ≠ 0) (hc : gb_enc w = [c']) (hA : ps_A A N) (hok : ∀ τ, ps_ok N τ (B τ)) (hE : Q → ∀ τ, gb_K n mj A N τ (B τ) a)
    (hzz : ∀ r2 M2, gb_R A N τ r2 M2 → gb_fr r0 M0 r2 M2 → Z r2 M2 none) :
    ∀ (f i : Nat) (σ : ps_S) (r : Nat → Int) (M : Nat → Nat → Int), i + f = 200 → (σ.2.2.1 = 0 → i ≤ σ.1 ∧ Q) → r 392 = a → gb_R A N σ r M → ga_Zs N σ → gb_fr r0 M0 r M → ps_lp A N (ps_ow A N w) B f σ = τ → P (wp, 0, 0) L [rd_ref (k + 1), wa_r 264] r M := by
  have h' := h
  obtain ⟨hseg, henv, -, -, -, -, -, -, -, -, -, -, -, hvret⟩ := h'
  unfold gb_wk at ck
  simp only [Bool.and_eq_true] at ck
  obtain ⟨⟨-, c2, c3⟩, ⟨c4, c5, c6⟩, ⟨k1, k2⟩, k3, k4, i1⟩ := ck
  have k1 := Bool.and_eq_true_iff.mpr k1
  have fin : ∀ r2 M2, gb_R A N τ r2 M2 → gb_fr r0 M0 r2 M2 → P (ex, 0, 0) L [] r2 M2 := fun r2 M2 g1 g2 => hvret (ex, 0, 0) _ r2 M2 rfl i1 (Nat.ble_eq_true_of_le (Nat.zero_le _)) (Nat.ble_eq_true_of_le (Nat.zero_le _)) (hzz r2 M2 g1 g2)
  intro f
  induction f with
  | zero =>
    intro i σ r M hi hp e1 hR hz hfr eq
    have eq : σ = τ := eq
    subst eq
    refine gb_icall (k := k) (S' := []) h (by omega) hk k1 hR hz (fun q y r3 s3 f3 => ?_) (fun y r3 s3 f3 => ?_)
    · exfalso
      have t2 := (ps_iw_iff.mp y).1
      have := ps_end hA (p := σ.1) (by have := (hp q).1; have := hA.1; omega) (hz q).1
      omega
    · refine hseg _ _ _ _ _ r3 M _ _ _ _ _ c3 ⟨pt_m0, pt_m1 ⟨by show (0 : Int) ≤ r3 471; omega, by show r3 471 ≤ 0; omega⟩, pt_m0⟩ ⟨fun _ => ?_, trivial⟩
      exact fin r3 M (gb_R_c (fun t ht => f3 t (by omega)) hR) (hfr.cg (fun t ht => f3 t (by omega)))
  | succ f ih =>
    intro i σ r M hi hp e1 hR hz hfr eq
    unfold ps_lp at eq
    have ow : (σ.2.2.1 = 0 ∧ ps_ow A N w σ ≠ 0) ↔ (σ.2.2.1 = 0 ∧ ps_iw A N (ps_wc k) σ = true) := by
      rw [hw]
      unfold ps_ow
      by_cases y : ps_iw A N w σ = true
      · rw [if_pos y]
        exact ⟨fun z => ⟨z.1, y⟩, fun z => ⟨z.1, hw0⟩⟩
      · rw [if_neg y]
        exact ⟨fun z => absurd rfl z.2, fun z => absurd z.2 y⟩
    refine gb_icall (k := k) (S' := []) h (by omega) hk k1 hR hz (fun q y r3 s3 f3 => ?_) (fun y r3 s3 f3 => ?_)
    · have e : ps_ow A N w σ = w := by
        unfold ps_ow
        rw [hw] at y
        rw [if_pos y]
      rw [if_pos (ow.mpr ⟨q, y⟩), e] at eq
      obtain ⟨hp1, hQ⟩ := hp q
      have t2 := (ps_iw_iff.mp y).1
      have z1 := (hz q).1
      have oav := ps_o1_av (σ := σ) hA (by omega)
      have zav := ga_Zs_ok (ps_o1_ok oav) hz
      have enl := ps_en_le hA z1 (by omega : ps_tk A N σ.1 ≠ 0)
      have stl := ps_st_le (A := A) z1
      have l3 : ∀ t, t < 391 → r3 t = r t := fun t ht => f3 t (by omega)
      refine hseg _ _ _ _ _ r3 M _ _ _ _ _ c2 ⟨pt_m0, pt_m1 ⟨by show (1 : Int) ≤ r3 471; omega, by show r3 471 ≤ 1; omega⟩, pt_m0⟩ ⟨fun _ => ?_, trivial⟩
      show P (yp, 0, 0) L (wa_r 264 :: []) r3 M
      refine gb_useA h (by omega) k2 (gb_R_c l3 hR) z1 q (fun r4 g1 g2 g3 => ?_)
      refine hseg _ _ _ _ _ r4 M _ _ _ _ _ c4 ⟨pt_m0, pt_m0, pt_m0⟩ ⟨fun _ => ?_, trivial⟩
      show P (inn, 0, 0) L (.inl (392, 0) :: wa_r 264 :: []) r4 M
      refine gb_use h hb k3 (hE hQ _) g1 zav (by show r4 392 + 0 = a; rw [g3 _ (by omega), f3 _ (by omega), e1, Int.add_zero]) (fun r5 M5 g4 g5 g6 => ?_)
      refine hseg _ _ _ _ _ r5 M5 _ _ _ _ _ c5 ⟨pt_m0, pt_m0, pt_m0⟩ ⟨fun _ => ?_, trivial⟩
      refine henv _ _ _ _ _ (fun hE5 _ => ?_)
      have z5 : r5 0 = 0 := hE5.1
      show P (em, 0, 0) L (.inl (0, c') :: wa_r 264 :: []) r5 M5
      have o1 := ps_o1_tr oav (hok (ps_av A N σ))
      refine gb_useE (c := w) h (by omega) hc k4 g4 (fun k => ?_) (by show r5 0 + c' = c'; omega) (fun r6 M6 g7 g8 g9 => ?_)
      · obtain ⟨w1, w2⟩ := o1 k
        obtain ⟨y1, y2⟩ := hz w1
        have := w2 y1
        have := hA.1
        omega
      · refine hseg _ _ _ _ _ r6 M6 _ _ _ _ _ c6 ⟨pt_m0, pt_m0, pt_m0⟩ ⟨fun _ => ?_, trivial⟩
        refine ih (i + 1) _ r6 M6 (by omega) (fun k => ⟨?_, hQ⟩) (by rw [g9 _ (by omega) (by omega), g6 _ (by omega) (by omega), g3 _ (by omega), f3 _ (by omega), e1]) g7 (ga_Zs_ok (ps_ok_em o1) hz) ((((hfr.cg l3).tr g2).tr g5).tr g8) eq
        have k : (B (ps_av A N σ)).2.2.1 = 0 := k
        obtain ⟨y1, y2⟩ := hok (ps_av A N σ) k
        have y3 := y2 enl.2
        show i + 1 ≤ (B (ps_av A N σ)).1
        have : (ps_av A N σ).1 = ps_en A N σ.1 := rfl
        omega
    · rw [if_neg (fun z => y (ow.mp z))] at eq
      subst eq
      refine hseg _ _ _ _ _ r3 M _ _ _ _ _ c3 ⟨pt_m0, pt_m1 ⟨by show (0 : Int) ≤ r3 471; omega, by show r3 471 ≤ 0; omega⟩, pt_m0⟩ ⟨fun _ => ?_, trivial⟩
      exact fin r3 M (gb_R_c (fun t ht => f3 t (by omega)) hR) (hfr.cg (fun t ht => f3 t (by omega)))
end GBV
theorem gb_an_k : gb_wk 200 199 6 7 5 9 16 21 27 33 gb_e2 = true ∧ gb_rw 200 [2] true 0 gb_e2 [] [] 2 gb_e2 gb_bS [] = true ∧ gb_ck 200 2 199 gb_e2 (392, 0) = true := by decide +kernel
noncomputable abbrev gb_xr (cp : List (Nat × Int × Int)) (W : List (Nat × pt_X)) : Bool := gb_rw 201 [7, 64] true 0 (gb_q wa_u) [] ((83, (0, 0)) :: cp) 64 (gb_q wa_u) gb_bS W
theorem gb_ex_k : gb_wk 201 200 7 8 67 71 78 83 89 95 (gb_q wa_u) = true ∧ gb_ck 201 64 200 (gb_q wa_u) (392, 0) = true ∧ (gb_rw 201 [7, 64] true 0 (gb_q wa_u) [] [(83, (1, 3))] 7 (gb_q wa_u) [] [] = true ∧ pt_is 7 201 7 = true) ∧
    (gb_xr [(78, (0, 0))] (gb_bad 1) = true ∧ gb_xr [(78, (4, 4))] (gb_bad 1) = true ∧ gb_xr [(78, (3, 3)), (79, (0, 39))] (gb_bad 1) = true ∧ gb_xr [(78, (3, 3)), (79, (41, 255))] (gb_bad 1) = true) ∧
    (gb_xr [(78, (1, 1)), (392, (0, 5))] [] = true ∧ gb_xr [(78, (2, 2)), (392, (0, 5))] [] = true ∧ gb_xr [(78, (3, 3)), (79, (40, 40)), (392, (0, 5))] [] = true) ∧
    (gb_xr [(78, (1, 1)), (392, (6, 6))] (gb_bad 2) = true ∧ gb_xr [(78, (2, 2)), (392, (6, 6))] (gb_bad 2) = true ∧ gb_xr [(78, (3, 3)), (79, (40, 40)), (392, (6, 6))] (gb_bad 2) = true) := by decide +kernel
section GBX
variable {A : Nat → Int} {N n : Nat} {E : ps_S → ps_S} {a : Int} {σ : ps_S}
theorem gb_anM (hn : 13 ≤ n) (hok : ∀ σ, ps_ok N σ (E σ)) (hE : σ.2.2.1 = 0 → (0 ≤ a ∧ a ≤ 5) ∧ ∀ m, n = m + 4 → ∀ τ, gb_K m 201 A N τ (E τ) (a + 1)) : gb_K (n + 1) 200 A N σ (ps_an A N E σ) a := by
  obtain ⟨m, rfl⟩ : ∃ m, n = m + 1 := ⟨n - 1, by omega⟩
  have hB : ∀ τ : ps_S, (τ.2.2.1 = 0 → σ.2.2.1 = 0) → gb_K (m + 1) 199 A N τ (ps_ne A N E τ) a := fun τ hq => gb_neM (by omega) hok (fun k => ⟨(hE (hq k)).1, fun j hj => (hE (hq k)).2 j (by omega)⟩)
  refine pt_intro (L0 := gb_e2) (gb_b0 200 (by decide)).2 (by omega) gbsys (by
    rw [gb_l_l.2.2.2.1]
    rfl) (fun P r M h hp => ?_)
  have h' := h
  obtain ⟨hseg, -⟩ := h'
  obtain ⟨⟨hR, hz⟩, ha⟩ := hp
  have hA := hR.1.2.1
  obtain ⟨ck, c1, c2⟩ := gb_an_k
  have ck' := ck
  unfold gb_wk at ck'
  rw [Bool.and_eq_true, Bool.and_eq_true] at ck'
  refine hseg _ _ _ _ _ r M _ _ _ _ _ c1 ⟨pt_m0, pt_m0, pt_m0⟩ ⟨fun _ => ?_, trivial⟩
  show P (2, 0, 0) gb_e2 (.inl (392, 0) :: wa_r 264 :: []) r M
  refine gb_use h (gb_b0 199 (by decide)) c2 (hB σ id) hR hz (by show r 392 + 0 = a; omega) (fun r2 M2 g1 g2 g3 => ?_)
  refine hseg _ _ _ _ _ r2 M2 _ _ _ _ _ ck'.1.1 ⟨pt_m0, pt_m0, pt_m0⟩ ⟨fun _ => ?_, trivial⟩
  have okB : ∀ τ, ps_ok N τ (ps_ne A N E τ) := fun τ => ps_ok_ne hA hok
  exact gb_wloop (r0 := r) (M0 := M) (B := ps_ne A N E) (a := a) (w := -13) (Q := σ.2.2.1 = 0) h (by omega) ck (gb_b0 199 (by decide)) (by omega) (by decide) (by omega) (by decide) hA okB (fun hq τ => hB τ (fun _ => hq)) (fun r2 M2 g1 g2 => ⟨rfl, g1, g2⟩) 200 0 (ps_ne A N E σ) r2 M2 (by omega) (fun k => ⟨Nat.zero_le _, (okB σ k).1⟩) (by rw [g3 _ (by omega) (by omega), ha]) g1 (ga_Zs_ok (okB σ) hz) g2 rfl
theorem ps_an_no (q : σ.2.2.1 = 0) (t1 : ps_tk A N σ.1 ≠ 1) (t2 : ps_tk A N σ.1 ≠ 2) (n40 : ¬ ps_is A N 40 σ = true) : ps_an A N E σ = ps_fl A N 1 σ := by
  have f1 : (ps_fl A N 1 σ).2.2.1 ≠ 0 := by
    unfold ps_fl
    rw [if_pos q]
    show (1 : Int) ≠ 0
    omega
  have niw : ¬ (σ.2.2.1 = 0 ∧ ps_iw A N (-12) σ = true) := fun w => t2 (ps_iw_iff.mp w.2).1
  have e1 : ps_pt A N E σ = ps_fl A N 1 σ := by
    unfold ps_pt
    rw [if_pos q, if_neg n40, if_neg (fun z => t1 z.1), if_neg (fun z => t2 z.1), if_neg (by omega)]
  have e2 : ps_nt A N 6 σ = (σ, 0) := by
    unfold ps_nt
    rw [if_neg niw]
  have e3 : ps_pr A N E σ = ps_fl A N 1 σ := by
    unfold ps_pr
    rw [e1]
    exact ps_lp_id f1 _
  have e4 : ps_su A N E σ = ps_fl A N 1 σ := by
    unfold ps_su
    rw [e3]
    exact ps_lp_id f1 _
  have e5 : ps_co A N E σ = ps_fl A N 1 σ := by
    unfold ps_co
    rw [e4]
    exact ps_lp_id f1 _
  have e6 : ps_ne A N E σ = ps_fl A N 1 σ := by
    unfold ps_ne
    rw [e2]
    exact e5
  unfold ps_an
  rw [e6]
  exact ps_lp_id f1 _
/-- what follows where an expression begins -/
theorem gb_xrest {d n m : Nat} {σ σ1 : ps_S} {P : pt_P} {r r1 : Nat → Int} {M : Nat → Nat → Int} (hA : ps_A A N) (h : pt_Cl (n + 1) 201 gbY 0 (fun r2 M2 o => o = none ∧ gb_R A N (ps_ex A N d σ) r2 M2 ∧ gb_fr r M r2 M2) P) (hn : 13 ≤ n) (hok : ∀ σ, ps_ok N σ (E σ)) (hE : σ1.2.2.1 = 0 → (0 ≤ a ∧ a ≤ 5) ∧ ∀ m, n = m + 4 → ∀ τ, gb_K m 201 A N τ (E τ) (a + 1)) (hR : gb_R A N σ1 r1 M) (hz : ga_Zs N σ1) (hfr : gb_fr r M r1 M) (ha : r1 392 = a)
    (eq : ps_lp A N (ps_ow A N (-14)) (ps_an A N E) 200 (ps_an A N E σ1) = ps_ex A N d σ) : P (64, 0, 0) (gb_q wa_u) gb_bS r1 M := by
  have h' := h
  obtain ⟨hseg, -⟩ := h'
  obtain ⟨ck, c1, -⟩ := gb_ex_k
  have ck' := ck
  unfold gb_wk at ck'
  rw [Bool.and_eq_true, Bool.and_eq_true] at ck'
  have hB : ∀ τ : ps_S, (τ.2.2.1 = 0 → σ1.2.2.1 = 0) → gb_K (n + 1) 200 A N τ (ps_an A N E τ) a := fun τ hq => gb_anM hn hok (fun k => ⟨(hE (hq k)).1, fun j hj => (hE (hq k)).2 j (by omega)⟩)
  have okB : ∀ τ, ps_ok N τ (ps_an A N E τ) := fun τ => ps_ok_an hA hok
  show P (64, 0, 0) (gb_q wa_u) (.inl (392, 0) :: wa_r 264 :: []) r1 M
  refine gb_use h (gb_b0 200 (by decide)) c1 (hB σ1 id) hR hz (by show r1 392 + 0 = a; omega) (fun r2 M2 g1 g2 g3 => ?_)
  refine hseg _ _ _ _ _ r2 M2 _ _ _ _ _ ck'.1.1 ⟨pt_m0, pt_m0, pt_m0⟩ ⟨fun _ => ?_, trivial⟩
  exact gb_wloop (r0 := r) (M0 := M) (B := ps_an A N E) (a := a) (w := -14) (τ := ps_ex A N d σ) (Q := σ1.2.2.1 = 0) h (by omega) ck (gb_b0 200 (by decide)) (by omega) (by decide) (by omega) (by decide) hA okB (fun hq τ => hB τ (fun _ => hq)) (fun r2 M2 g1 g2 => ⟨rfl, g1, g2⟩) 200 0 (ps_an A N E σ1) r2 M2 (by omega) (fun k => ⟨Nat.zero_le _, (okB σ1 k).1⟩) (by rw [g3 _ (by omega) (by omega), ha]) g1 (ga_Zs_ok (okB σ1) hz) (hfr.tr g2) eq
/-- an expression with d levels left -/
theorem gb_xM (hA : ps_A A N) : ∀ (d : Nat), d ≤ 6 → ∀ n, 20 + 6 * d ≤ n → ∀ σ, gb_K n 201 A N σ (ps_ex A N d σ) (6 - (d : Int)) := by
  intro d
  induction d with
  | zero =>
    intro _ n hn σ
    obtain ⟨m, rfl⟩ : ∃ m, n = m + 1 + 1 := ⟨n - 2, by omega⟩
    refine pt_intro (L0 := gb_q wa_u) (gb_b0 201 (by decide)).2 (by omega) gbsys (by
      rw [gb_l_l.2.2.2.2]
      rfl) (fun P r M h hp => ?_)
    have h' := h
    obtain ⟨hseg, henv, -, -, -, -, -, -, -, -, -, -, -, hvret⟩ := h'
    obtain ⟨⟨hR, hz⟩, ha⟩ := hp
    obtain ⟨h1, ⟨h2, h3, h4, h4'⟩, h5⟩ := id hR
    obtain ⟨-, -, ⟨c0, i0⟩, ⟨c1, c2, c3, c4⟩, -, c8, c9, c10⟩ := gb_ex_k
    have ha : r 392 = 6 := ha
    by_cases q : σ.2.2.1 = 0
    · have k0 : (0 : Int) ≤ r 83 ∧ r 83 ≤ 0 := by omega
      have m6 : (6 : Int) ≤ r 392 ∧ r 392 ≤ 6 := by omega
      obtain ⟨⟨⟨a1, a2, a3, a4⟩, a5, a6⟩, a7⟩ := h5 q
      have km := gb_km_v (t := ps_tk A N σ.1)
      have tt := ps_tk4 (A := A) (n := N) (p := σ.1)
      obtain ⟨t3, t4, -⟩ := gb_tkr a2
      have go : ∀ k : Int, 1 ≤ k ∧ k ≤ 2 → (if (ps_tk A N σ.1 = 1 ∨ ps_tk A N σ.1 = 2) ∨ ps_is A N 40 σ = true then (2 : Int) else 1) = k → P (64, 0, 0) (gb_q wa_u) gb_bS (pt_up r (gb_bad k)) M := fun k hk e => by
        obtain ⟨g1, g2, g3⟩ := gb_R_bad (k := k) (by omega) hR q rfl
        have ee : ps_ex A N 0 σ = ps_fl A N k σ := by
          unfold ps_ex
          rw [e]
        have fk : (ps_fl A N k σ).2.2.1 = k := by
          unfold ps_fl
          rw [if_pos q]
        have fz : (ps_fl A N k σ).2.2.1 ≠ 0 := by omega
        refine gb_xrest (E := ps_ex A N 0) (a := 6) (σ1 := ps_fl A N k σ) (m := m) hA h (by omega) (fun τ => ps_ok_ex hA 0 τ) (fun w => absurd w fz) g1 (fun w => absurd w fz) g2 ((g3 _ (by omega) (by omega)).trans ha) ?_
        rw [ps_an_id fz, ps_lp_id fz, ee]
      rcases (by omega : ps_tk A N σ.1 = 0 ∨ ps_tk A N σ.1 = 1 ∨ ps_tk A N σ.1 = 2 ∨ ps_tk A N σ.1 = 3 ∨ ps_tk A N σ.1 = 4) with t | t | t | t | t
      · refine hseg _ _ _ _ _ r M _ _ _ _ _ c1 ⟨pt_m0, pt_mc k0 (pt_m1 ⟨by show (0 : Int) ≤ r 78; rw [a2, km.1 t]; omega, by show r 78 ≤ 0; rw [a2, km.1 t]; omega⟩), pt_m0⟩ ⟨fun _ => go 1 (by omega) (if_neg ?_), trivial⟩
        rintro (z | z)
        · omega
        · have := (ps_is_iff.mp z).1
          omega
      · exact hseg _ _ _ _ _ r M _ _ _ _ _ c9 ⟨pt_m0, pt_m3 k0 ⟨by show (2 : Int) ≤ r 78; rw [a2, km.2.1 t]; omega, by show r 78 ≤ 2; rw [a2, km.2.1 t]; omega⟩ m6, pt_m0⟩ ⟨fun _ => go 2 (by omega) (if_pos (Or.inl (Or.inl t))), trivial⟩
      · exact hseg _ _ _ _ _ r M _ _ _ _ _ c8 ⟨pt_m0, pt_m3 k0 ⟨by show (1 : Int) ≤ r 78; rw [a2, km.2.2.1 t]; omega, by show r 78 ≤ 1; rw [a2, km.2.2.1 t]; omega⟩ m6, pt_m0⟩ ⟨fun _ => go 2 (by omega) (if_pos (Or.inl (Or.inr t))), trivial⟩
      · have vl := a5 t
        have rg := (ps_vl_rg h1.2.1 σ.1).1 t
        rcases (by omega : ps_vl A N σ.1 ≤ 39 ∨ ps_vl A N σ.1 = 40 ∨ 41 ≤ ps_vl A N σ.1) with v | v | v
        · refine hseg _ _ _ _ _ r M _ _ _ _ _ c3 ⟨pt_m0, pt_m3 k0 (t3 t) ⟨by show (0 : Int) ≤ r 79; omega, by show r 79 ≤ 39; omega⟩, pt_m0⟩ ⟨fun _ => go 1 (by omega) (if_neg ?_), trivial⟩
          rintro (z | z)
          · omega
          · have := (ps_is_iff.mp z).2
            omega
        · exact hseg _ _ _ _ _ r M _ _ _ _ _ c10 ⟨pt_m0, pt_m4 k0 (t3 t) ⟨by show (40 : Int) ≤ r 79; omega, by show r 79 ≤ 40; omega⟩ m6, pt_m0⟩ ⟨fun _ => go 2 (by omega) (if_pos (Or.inr (ps_is_iff.mpr ⟨t, v⟩))), trivial⟩
        · refine hseg _ _ _ _ _ r M _ _ _ _ _ c4 ⟨pt_m0, pt_m3 k0 (t3 t) ⟨by show (41 : Int) ≤ r 79; omega, by show r 79 ≤ 255; omega⟩, pt_m0⟩ ⟨fun _ => go 1 (by omega) (if_neg ?_), trivial⟩
          rintro (z | z)
          · omega
          · have := (ps_is_iff.mp z).2
            omega
      · refine hseg _ _ _ _ _ r M _ _ _ _ _ c2 ⟨pt_m0, pt_mc k0 (pt_m1 (t4 t)), pt_m0⟩ ⟨fun _ => go 1 (by omega) (if_neg ?_), trivial⟩
        rintro (z | z)
        · omega
        · have := (ps_is_iff.mp z).1
          omega
    · have ee : ps_ex A N 0 σ = σ := by
        unfold ps_ex ps_fl
        rw [if_neg q]
      refine hseg _ _ _ _ _ r M _ _ _ _ _ c0 ⟨pt_m0, pt_m1 ⟨by show (1 : Int) ≤ r 83; omega, by show r 83 ≤ 3; omega⟩, pt_m0⟩ ⟨fun _ => ?_, trivial⟩
      exact hvret (7, 0, 0) _ r M rfl i0 (Nat.ble_eq_true_of_le (Nat.zero_le _)) (Nat.ble_eq_true_of_le (Nat.zero_le _)) ⟨rfl, by rw [ee]; exact hR, gb_fr.rf⟩
  | succ d ih =>
    intro hd n hn σ
    obtain ⟨m, rfl⟩ : ∃ m, n = m + 1 + 1 := ⟨n - 2, by omega⟩
    have hok : ∀ τ, ps_ok N τ (ps_ex A N d τ) := fun τ => ps_ok_ex hA d τ
    have ea : (6 : Int) - ((d + 1 : Nat) : Int) = 5 - (d : Int) := by omega
    rw [ea]
    have hE : (0 ≤ 5 - (d : Int) ∧ 5 - (d : Int) ≤ 5) ∧ ∀ k, m = k + 4 → ∀ τ, gb_K k 201 A N τ (ps_ex A N d τ) (5 - (d : Int) + 1) := ⟨by omega, fun k hk τ => by
      have e : (5 : Int) - (d : Int) + 1 = 6 - (d : Int) := by omega
      rw [e]
      exact ih (by omega) k (by omega) τ⟩
    refine pt_intro (L0 := gb_q wa_u) (gb_b0 201 (by decide)).2 (by omega) gbsys (by
      rw [gb_l_l.2.2.2.2]
      rfl) (fun P r M h hp => ?_)
    have h' := h
    obtain ⟨hseg, henv, -, -, -, -, -, -, -, -, -, -, -, hvret⟩ := h'
    obtain ⟨⟨hR, hz⟩, ha⟩ := hp
    obtain ⟨h1, ⟨h2, h3, h4, h4'⟩, h5⟩ := id hR
    obtain ⟨-, -, ⟨c0, i0⟩, ⟨c1, c2, c3, c4⟩, ⟨c5, c6, c7⟩, -⟩ := gb_ex_k
    have ha : r 392 = 5 - (d : Int) := ha
    by_cases q : σ.2.2.1 = 0
    · have k0 : (0 : Int) ≤ r 83 ∧ r 83 ≤ 0 := by omega
      have m5 : (0 : Int) ≤ r 392 ∧ r 392 ≤ 5 := by omega
      obtain ⟨⟨⟨a1, a2, a3, a4⟩, a5, a6⟩, a7⟩ := h5 q
      have km := gb_km_v (t := ps_tk A N σ.1)
      have tt := ps_tk4 (A := A) (n := N) (p := σ.1)
      obtain ⟨t3, t4, -⟩ := gb_tkr a2
      have go : P (64, 0, 0) (gb_q wa_u) gb_bS r M := gb_xrest (E := ps_ex A N d) (a := 5 - (d : Int)) (σ1 := σ) (d := d + 1) (m := m) hA h (by omega) hok (fun _ => hE) hR hz gb_fr.rf ha rfl
      have bad : ps_tk A N σ.1 ≠ 1 → ps_tk A N σ.1 ≠ 2 → ¬ ps_is A N 40 σ = true → P (64, 0, 0) (gb_q wa_u) gb_bS (pt_up r (gb_bad 1)) M := fun x1 x2 x3 => by
        obtain ⟨g1, g2, g3⟩ := gb_R_bad (k := 1) (by omega) hR q rfl
        have fk : (ps_fl A N 1 σ).2.2.1 = 1 := by
          unfold ps_fl
          rw [if_pos q]
        have fz : (ps_fl A N 1 σ).2.2.1 ≠ 0 := by omega
        refine gb_xrest (E := ps_ex A N d) (a := 5 - (d : Int)) (σ1 := ps_fl A N 1 σ) (d := d + 1) (m := m) hA h (by omega) hok (fun w => absurd w fz) g1 (fun w => absurd w fz) g2 ((g3 _ (by omega) (by omega)).trans ha) ?_
        rw [ps_an_id fz, ps_lp_id fz]
        unfold ps_ex
        rw [ps_an_no q x1 x2 x3, ps_lp_id fz]
      rcases (by omega : ps_tk A N σ.1 = 0 ∨ ps_tk A N σ.1 = 1 ∨ ps_tk A N σ.1 = 2 ∨ ps_tk A N σ.1 = 3 ∨ ps_tk A N σ.1 = 4) with t | t | t | t | t
      · exact hseg _ _ _ _ _ r M _ _ _ _ _ c1 ⟨pt_m0, pt_mc k0 (pt_m1 ⟨by show (0 : Int) ≤ r 78; rw [a2, km.1 t]; omega, by show r 78 ≤ 0; rw [a2, km.1 t]; omega⟩), pt_m0⟩ ⟨fun _ => bad (by omega) (by omega) (fun z => by have := (ps_is_iff.mp z).1; omega), trivial⟩
      · exact hseg _ _ _ _ _ r M _ _ _ _ _ c6 ⟨pt_m0, pt_m3 k0 ⟨by show (2 : Int) ≤ r 78; rw [a2, km.2.1 t]; omega, by show r 78 ≤ 2; rw [a2, km.2.1 t]; omega⟩ m5, pt_m0⟩ ⟨fun _ => go, trivial⟩
      · exact hseg _ _ _ _ _ r M _ _ _ _ _ c5 ⟨pt_m0, pt_m3 k0 ⟨by show (1 : Int) ≤ r 78; rw [a2, km.2.2.1 t]; omega, by show r 78 ≤ 1; rw [a2, km.2.2.1 t]; omega⟩ m5, pt_m0⟩ ⟨fun _ => go, trivial⟩
      · have vl := a5 t
        have rg := (ps_vl_rg h1.2.1 σ.1).1 t
        rcases (by omega : ps_vl A N σ.1 ≤ 39 ∨ ps_vl A N σ.1 = 40 ∨ 41 ≤ ps_vl A N σ.1) with v | v | v
        · exact hseg _ _ _ _ _ r M _ _ _ _ _ c3 ⟨pt_m0, pt_m3 k0 (t3 t) ⟨by show (0 : Int) ≤ r 79; omega, by show r 79 ≤ 39; omega⟩, pt_m0⟩ ⟨fun _ => bad (by omega) (by omega) (fun z => by have := (ps_is_iff.mp z).2; omega), trivial⟩
        · exact hseg _ _ _ _ _ r M _ _ _ _ _ c7 ⟨pt_m0, pt_m4 k0 (t3 t) ⟨by show (40 : Int) ≤ r 79; omega, by show r 79 ≤ 40; omega⟩ m5, pt_m0⟩ ⟨fun _ => go, trivial⟩
        · exact hseg _ _ _ _ _ r M _ _ _ _ _ c4 ⟨pt_m0, pt_m3 k0 (t3 t) ⟨by show (41 : Int) ≤ r 79; omega, by show r 79 ≤ 255; omega⟩, pt_m0⟩ ⟨fun _ => bad (by omega) (by omega) (fun z => by have := (ps_is_iff.mp z).2; omega), trivial⟩
      · exact hseg _ _ _ _ _ r M _ _ _ _ _ c2 ⟨pt_m0, pt_mc k0 (pt_m1 (t4 t)), pt_m0⟩ ⟨fun _ => bad (by omega) (by omega) (fun z => by have := (ps_is_iff.mp z).1; omega), trivial⟩
    · have ee : ps_ex A N (d + 1) σ = σ := by
        unfold ps_ex
        rw [ps_an_id q, ps_lp_id q]
      refine hseg _ _ _ _ _ r M _ _ _ _ _ c0 ⟨pt_m0, pt_m1 ⟨by show (1 : Int) ≤ r 83; omega, by show r 83 ≤ 3; omega⟩, pt_m0⟩ ⟨fun _ => ?_, trivial⟩
      exact hvret (7, 0, 0) _ r M rfl i0 (Nat.ble_eq_true_of_le (Nat.zero_le _)) (Nat.ble_eq_true_of_le (Nat.zero_le _)) ⟨rfl, by rw [ee]; exact hR, gb_fr.rf⟩
end GBX
