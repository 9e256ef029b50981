/-! TEXTS (the class): operations side by side -/
noncomputable def ps_og (A : Nat → Int) (n K : Nat) : List (Int × Int) → ps_S → Int
  | [], _ => 0
  | q :: l, σ => if ps_tk A n σ.1 = K ∧ ps_vl A n σ.1 = q.1 then q.2 else ps_og A n K l σ
theorem ps_op_og {A : Nat → Int} {n : Nat} {c1 o1 c2 o2 : Int} {σ : ps_S} : ps_op A n c1 o1 c2 o2 σ = ps_og A n 3 [(c1, o1), (c2, o2)] σ := by
  unfold ps_op ps_og ps_og ps_og
  by_cases a : ps_tk A n σ.1 = 3 ∧ ps_vl A n σ.1 = c1
  · rw [if_pos (ps_is_iff.mpr a), if_pos a]
  · rw [if_neg (fun w => a (ps_is_iff.mp w)), if_neg a]
    by_cases b : ps_tk A n σ.1 = 3 ∧ ps_vl A n σ.1 = c2
    · rw [if_pos (ps_is_iff.mpr b), if_pos b]
    · rw [if_neg (fun w => b (ps_is_iff.mp w)), if_neg b]
theorem ps_ow_og {A : Nat → Int} {n : Nat} {w : Int} {σ : ps_S} : ps_ow A n w σ = ps_og A n 2 [(w, w)] σ := by
  unfold ps_ow ps_og ps_og
  by_cases a : ps_tk A n σ.1 = 2 ∧ ps_vl A n σ.1 = w
  · rw [if_pos (ps_iw_iff.mpr a), if_pos a]
  · rw [if_neg (fun z => a (ps_iw_iff.mp z)), if_neg a]
theorem ps_og_no {A : Nat → Int} {n K : Nat} {σ : ps_S} : ∀ {l : List (Int × Int)}, (∀ q ∈ l, ¬ (ps_tk A n σ.1 = K ∧ ps_vl A n σ.1 = q.1)) → ps_og A n K l σ = 0
  | [], _ => rfl
  | q :: l, h => by
    unfold ps_og
    rw [if_neg (h q List.mem_cons_self)]
    exact ps_og_no (fun z hz => h z (List.mem_cons_of_mem _ hz))
theorem ps_og_in {A : Nat → Int} {n K : Nat} {σ : ps_S} : ∀ {l : List (Int × Int)}, ps_og A n K l σ ≠ 0 → ∃ q ∈ l, (ps_tk A n σ.1 = K ∧ ps_vl A n σ.1 = q.1) ∧ ps_og A n K l σ = q.2
  | [], h => absurd rfl h
  | q :: l, h => by
    unfold ps_og at h ⊢
    by_cases a : ps_tk A n σ.1 = K ∧ ps_vl A n σ.1 = q.1
    · rw [if_pos a]
      exact ⟨q, List.mem_cons_self, a, rfl⟩
    · rw [if_neg a] at h ⊢
      obtain ⟨z, z1, z2⟩ := ps_og_in h
      exact ⟨z, List.mem_cons_of_mem _ z1, z2⟩
noncomputable def ga_ck (mi pc mj : Nat) (L : List ai_V) (y : ai_X) : Bool := cy_vk mi pc mj gaY.2.1 [.inl y, wa_r 84] [wa_r 84, .inl y] [] && pt_cck gaY mi mj (pc, 0, 0) 0 471 L [] [wa_r 84, .inl y] [wa_r 84, wa_i 392]
noncomputable def ga_ca (mi pc : Nat) (L : List ai_V) : Bool := cy_vk mi pc 103 gaY.2.1 [wa_r 84] [wa_r 84] [] && pt_cck gaY mi 103 (pc, 0, 0) 0 471 L [] [wa_r 84] [wa_r 84]
noncomputable def ga_rw (mi : Nat) (st : List Nat) (sk : Bool) (pc : Nat) (L : List ai_V) (cp : List (Nat × Int × Int)) (pc2 : Nat) (L2 S2 : List ai_V) (W : List (Nat × pt_X)) : Bool := pt_row gaY mi st sk (pc, 0, 0) L [] [] cp [] [] [((pc2, 0, 0), (L2, S2), W, [])]
/-- all rows of a place where an operation may follow -/
noncomputable def ga_sk (mi mj hd ex ad inn em : Nat) (Lh Lx : List ai_V) (Lg : Int → List ai_V) (cpx : List (Nat × Int × Int)) (K : Nat) (tests ivs : List (Int × Int)) : Bool :=
  (ga_rw mi [ad, ex] true hd Lh ((38, (1, 3)) :: cpx) ex Lx [] [] && (ga_rw mi [ad, ex] true hd Lh ((38, (0, 0)) :: (42, (0, .ofNat K - 1)) :: cpx) ex Lx [] [] && ga_rw mi [ad, ex] true hd Lh ((38, (0, 0)) :: (42, (.ofNat K + 1, 4)) :: cpx) ex Lx [] [])) &&
  (ivs.all (fun z => ga_rw mi [ad, ex] true hd Lh ((38, (0, 0)) :: (42, (.ofNat K, .ofNat K)) :: (43, (z.1, z.2)) :: cpx) ex Lx [] []) &&
  tests.all (fun q => ga_rw mi [ad, ex] true hd Lh ((38, (0, 0)) :: (42, (.ofNat K, .ofNat K)) :: (43, (q.1, q.1)) :: cpx) ad (Lg q.2) [wa_r 84] [] && ((ga_rw mi [inn] false (ad + 3) (Lg q.2) [] inn (Lg q.2) [wa_i 392, wa_r 84] [] && ga_rw mi [em] false (inn + 3) (Lg q.2) [] em (Lg q.2) [gz_n q.2, wa_r 84] []) && (ga_ca mi ad (Lg q.2) && (ga_ck mi inn mj (Lg q.2) (392, 0) && (ga_ck mi em 99 (Lg q.2) (0, q.2) && !(ai_eq q.2 0)))))))
theorem pt_mc {α : Type} {p : α → Prop} {a : α} {l : List α} (h : p a) (g : ∀ x ∈ l, p x) : ∀ x ∈ a :: l, p x := fun x hx => by
  rcases List.mem_cons.mp hx with rfl | hx
  · exact h
  · exact g x hx
section GAS
variable {n mi mj hd ex ad inn em K : Nat} {Lh Lx : List ai_V} {Lg : Int → List ai_V} {cpx : List (Nat × Int × Int)} {tests ivs : List (Int × Int)}
variable {Z : (Nat → Int) → (Nat → Nat → Int) → Option Int → Prop} {P : pt_P} {A : Nat → Int} {N : Nat} {σ : ps_S} {r : Nat → Int} {M : Nat → Nat → Int} {B : ps_S → ps_S} {a : Int}
theorem ga_step (h : pt_Cl n mi gaY 0 Z P) (hn : 8 ≤ n) (ck : ga_sk mi mj hd ex ad inn em Lh Lx Lg cpx K tests ivs = true) (hb : ct_bud mj = (0, 0) ∧ lh_plain mj = true) (hK : K ≤ 4) (hR : ga_R A N σ r M) (hz : ga_Zs N σ) (hcp : ∀ q ∈ cpx, q.2.1 ≤ r q.1 ∧ r q.1 ≤ q.2.2) (hA1 : r 392 = a)
    (hcov : ps_tk A N σ.1 = K → (∃ q ∈ tests, ps_vl A N σ.1 = q.1) ∨ ∃ z ∈ ivs, z.1 ≤ ps_vl A N σ.1 ∧ ps_vl A N σ.1 ≤ z.2) (hK0 : 1 ≤ K) (hok : ∀ τ, ps_ok N τ (B τ)) (hE : ∀ τ, ga_K n mj A N τ (B τ) a)
    (kx : ¬ (σ.2.2.1 = 0 ∧ ps_og A N K tests σ ≠ 0) → P (ex, 0, 0) Lx [] r M)
    (kg : σ.2.2.1 = 0 ∧ ps_og A N K tests σ ≠ 0 → ∀ q ∈ tests, ps_og A N K tests σ = q.2 → ∀ r2 M2, ga_R A N (ps_em (ps_og A N K tests σ) (B (ps_av A N σ))) r2 M2 → ga_fr r M r2 M2 → (∀ t, 391 ≤ t → t ≠ 471 → r2 t = r t) → P (em + 3, 0, 0) (Lg q.2) [] r2 M2) : P (hd, 0, 0) Lh [] r M := by
  have h' := h
  obtain ⟨hseg, henv, -⟩ := h'
  unfold ga_sk at ck
  simp only [Bool.and_eq_true] at ck
  obtain ⟨⟨c1, c2, c3⟩, c4, c5⟩ := ck
  have hR' := hR
  obtain ⟨h1, ⟨h2, h3, h4, h4'⟩, h5⟩ := hR'
  have hA := h1.2.1
  by_cases q0 : σ.2.2.1 = 0
  · have k0 : (0 : Int) ≤ r 38 ∧ r 38 ≤ 0 := by omega
    obtain ⟨⟨a1, a2, a3, a4⟩, a5, a6⟩ := h5 q0
    have t4 := ps_tk4 (A := A) (n := N) (p := σ.1)
    by_cases t : ps_tk A N σ.1 = K
    · have vl := a4 (by omega)
      have kd : Int.ofNat K ≤ r 42 ∧ r 42 ≤ Int.ofNat K := by
        rw [a2, t]
        exact ⟨Int.le_refl _, Int.le_refl _⟩
      by_cases o0 : ps_og A N K tests σ = 0
      · refine (?_ : P (hd, 0, 0) Lh [] r M)
        rcases hcov t with ⟨q, hq, e⟩ | ⟨z, hz', z1, z2⟩
        · -- an operation told by nought: none is
          have c5q := List.all_eq_true.mp c5 q hq
          simp only [Bool.and_eq_true, Bool.not_eq_true'] at c5q
          exfalso
          have nz : ∀ q ∈ tests, q.2 ≠ 0 := fun q hq e => by
            have g := List.all_eq_true.mp c5 q hq
            simp only [Bool.and_eq_true, Bool.not_eq_true'] at g
            have g := g.2.2.2.2.2
            rw [e] at g
            cases g
          have key : ∀ l : List (Int × Int), (∀ q ∈ l, q.2 ≠ 0) → q ∈ l → ps_og A N K l σ ≠ 0 := fun l => by
            induction l with
            | nil => intro _ hq; cases hq
            | cons p l ih =>
              intro hl hq
              unfold ps_og
              by_cases w : ps_tk A N σ.1 = K ∧ ps_vl A N σ.1 = p.1
              · rw [if_pos w]
                exact hl p List.mem_cons_self
              · rw [if_neg w]
                rcases List.mem_cons.mp hq with rfl | hq
                · exact absurd ⟨t, e⟩ w
                · exact ih (fun z hz => hl z (List.mem_cons_of_mem _ hz)) hq
          exact key tests nz hq o0
        · exact hseg _ _ _ _ _ r M _ _ _ _ _ (List.all_eq_true.mp c4 z hz') ⟨pt_m0, pt_mc k0 (pt_mc kd (pt_mc ⟨by show z.1 ≤ r 43; omega, by show r 43 ≤ z.2; omega⟩ hcp)), pt_m0⟩ ⟨fun _ => kx (fun w => w.2 o0), trivial⟩
      · obtain ⟨q, hq, ⟨-, qv⟩, qo⟩ := ps_og_in o0
        have c5q := List.all_eq_true.mp c5 q hq
        simp only [Bool.and_eq_true] at c5q
        obtain ⟨d1, ⟨d2, d3⟩, d4, d5, d6, -⟩ := c5q
        have t0 : ps_tk A N σ.1 ≠ 0 := by omega
        have oav := ps_o1_av (σ := σ) hA t0
        have zav := ga_Zs_ok (ps_o1_ok oav) hz
        refine hseg _ _ _ _ _ r M _ _ _ _ _ d1 ⟨pt_m0, pt_mc k0 (pt_mc kd (pt_mc ⟨by show q.1 ≤ r 43; omega, by show r 43 ≤ q.1; omega⟩ hcp)), pt_m0⟩ ⟨fun _ => ?_, trivial⟩
        show P (ad, 0, 0) (Lg q.2) (wa_r 84 :: []) r M
        refine ga_useA h hn d4 hR hz q0 (fun r2 g1 g2 g3 => ?_)
        refine hseg _ _ _ _ _ r2 M _ _ _ _ _ d2 ⟨pt_m0, pt_m0, pt_m0⟩ ⟨fun _ => ?_, trivial⟩
        show P (inn, 0, 0) (Lg q.2) (.inl (392, 0) :: wa_r 84 :: []) r2 M
        refine ga_use h hb d5 (hE _) g1 zav (by show r2 392 + 0 = a; rw [g3 _ (by omega), hA1, Int.add_zero]) (fun r3 M3 g4 g5 g6 => ?_)
        refine hseg _ _ _ _ _ r3 M3 _ _ _ _ _ d3 ⟨pt_m0, pt_m0, pt_m0⟩ ⟨fun _ => ?_, trivial⟩
        refine henv _ _ _ _ _ (fun hE3 _ => ?_)
        have z3 : r3 0 = 0 := hE3.1
        show P (em, 0, 0) (Lg q.2) (.inl (0, q.2) :: wa_r 84 :: []) r3 M3
        have o1 := ps_o1_tr oav (hok (ps_av A N σ))
        refine ga_useE (c := q.2) h (by omega) d6 g4 (fun k => ?_) (by show r3 0 + q.2 = q.2; omega) (fun r4 M4 g7 g8 g9 => ?_)
        · obtain ⟨w1, w2⟩ := o1 k
          obtain ⟨z1, z2⟩ := hz w1
          have := w2 z1
          have := hA.1
          omega
        · refine kg ⟨q0, o0⟩ q hq qo r4 M4 (by rw [qo]; exact g7) ((g2.tr g5).tr g8) (fun t h1 h2 => ?_)
          rw [g9 t h1 h2, g6 t h1 h2, g3 t h1]
    · have og : ps_og A N K tests σ = 0 := ps_og_no (fun q _ w => t w.1)
      have out := kx (fun w => w.2 og)
      rcases (by omega : ps_tk A N σ.1 + 1 ≤ K ∨ K + 1 ≤ ps_tk A N σ.1) with w | w
      · exact hseg _ _ _ _ _ r M _ _ _ _ _ c2 ⟨pt_m0, pt_mc k0 (pt_mc ⟨by show (0 : Int) ≤ r 42; omega, by show r 42 ≤ (K : Int) - 1; omega⟩ hcp), pt_m0⟩ ⟨fun _ => out, trivial⟩
      · exact hseg _ _ _ _ _ r M _ _ _ _ _ c3 ⟨pt_m0, pt_mc k0 (pt_mc ⟨by show (K : Int) + 1 ≤ r 42; omega, by show r 42 ≤ (4 : Int); omega⟩ hcp), pt_m0⟩ ⟨fun _ => out, trivial⟩
  · exact hseg _ _ _ _ _ r M _ _ _ _ _ c1 ⟨pt_m0, pt_mc ⟨by show (1 : Int) ≤ r 38; omega, by show r 38 ≤ (3 : Int); omega⟩ hcp, pt_m0⟩ ⟨fun _ => kx (fun w => q0 w.1), trivial⟩
/-- the rows of a whole loop: one operand, operations with one more each -/
noncomputable def ga_lk (mi mj c0 hd ex ad inn em : Nat) (L0 Lc Lh Lx : List ai_V) (Lg : Int → List ai_V) (cpa : List (Nat × Int × Int)) (K : Nat) (tests ivs : List (Int × Int)) : Bool :=
  (ga_sk mi mj hd ex ad inn em Lh Lx Lg [(393, (0, 199))] K tests ivs && (ga_rw mi [ad, ex] true hd Lh [(393, (200, 200))] ex Lx [] [] && tests.all (fun q => ga_rw mi [hd] false (em + 3) (Lg q.2) [(393, (0, 199))] hd Lh [] [(393, gz_d 393 1)]))) &&
  ((ga_rw mi [c0] true 0 L0 cpa c0 Lc [wa_i 392, wa_r 84] [] && ga_rw mi [hd] false (c0 + 3) Lc [] hd Lh [] [(393, gz_k 0)]) && (ga_ck mi c0 mj Lc (392, 0) && pt_is 7 mi ex))
theorem ga_lloop (h : pt_Cl n mi gaY 0 Z P) (hn : 8 ≤ n) {c0 : Nat} {L0 Lc : List ai_V} {cpa : List (Nat × Int × Int)} (ck : ga_lk mi mj c0 hd ex ad inn em L0 Lc Lh Lx Lg cpa K tests ivs = true) (hb : ct_bud mj = (0, 0) ∧ lh_plain mj = true) (hK : 1 ≤ K ∧ K ≤ 4) {o : ps_S → Int} (ho : ∀ τ, o τ = ps_og A N K tests τ)
    (hcov : ∀ p, ps_tk A N p = K → (∃ q ∈ tests, ps_vl A N p = q.1) ∨ ∃ z ∈ ivs, z.1 ≤ ps_vl A N p ∧ ps_vl A N p ≤ z.2) (hok : ∀ τ, ps_ok N τ (B τ)) (hE : ∀ τ, ga_K n mj A N τ (B τ) a) {r0 : Nat → Int} {M0 : Nat → Nat → Int} {τ : ps_S}
    (hzz : ∀ r2 M2, ga_R A N τ r2 M2 → ga_fr r0 M0 r2 M2 → Z r2 M2 none) :
    ∀ (f i : Nat) (σ : ps_S) (r : Nat → Int) (M : Nat → Nat → Int), i + f = 200 → r 393 = (i : Int) → r 392 = a → ga_R A N σ r M → ga_Zs N σ → ga_fr r0 M0 r M → ps_lp A N o B f σ = τ → P (hd, 0, 0) Lh [] r M := by
  have h' := h
  obtain ⟨hseg, henv, -, -, -, -, -, -, -, -, -, -, -, hvret⟩ := h'
  unfold ga_lk at ck
  simp only [Bool.and_eq_true] at ck
  obtain ⟨⟨c1, c2, c3⟩, ⟨c4, c5⟩, c6, c7⟩ := ck
  have fin : ∀ r2 M2, ga_R A N τ r2 M2 → ga_fr r0 M0 r2 M2 → P (ex, 0, 0) Lx [] r2 M2 := fun r2 M2 g1 g2 => hvret (ex, 0, 0) _ r2 M2 rfl c7 (Nat.ble_eq_true_of_le (Nat.zero_le _)) (Nat.ble_eq_true_of_le (Nat.zero_le _)) (hzz r2 M2 g1 g2)
  intro f
  induction f with
  | zero =>
    intro i σ r M hi e2 e1 hR hz hfr eq
    have eq : σ = τ := eq
    subst eq
    refine hseg _ _ _ _ _ r M _ _ _ _ _ c2 ⟨pt_m0, pt_m1 ⟨by show (200 : Int) ≤ r 393; omega, by show r 393 ≤ (200 : Int); omega⟩, pt_m0⟩ ⟨fun _ => ?_, trivial⟩
    exact fin r M hR hfr
  | succ f ih =>
    intro i σ r M hi e2 e1 hR hz hfr eq
    unfold ps_lp at eq
    have hA := hR.1.2.1
    refine ga_step (B := B) h hn c1 hb hK.2 hR hz (pt_m1 ⟨by show (0 : Int) ≤ r 393; omega, by show r 393 ≤ (199 : Int); omega⟩) e1 (hcov σ.1) hK.1 hok hE (fun w => ?_) (fun w q hq qo r2 M2 g1 g2 g3 => ?_)
    · rw [if_neg (by rw [ho]; exact w)] at eq
      subst eq
      exact fin r M hR hfr
    · rw [if_pos (by rw [ho]; exact w), ho] at eq
      have a22 : r2 393 = (i : Int) := (g3 _ (by omega) (by omega)).trans e2
      refine hseg _ _ _ _ _ r2 M2 _ _ _ _ _ (List.all_eq_true.mp c3 q hq) ⟨pt_m0, pt_m1 ⟨by show (0 : Int) ≤ r2 393; omega, by show r2 393 ≤ (199 : Int); omega⟩, pt_m0⟩ ⟨fun _ => ?_, trivial⟩
      obtain ⟨r3, hr3⟩ : ∃ r3, r3 = pt_up r2 [(393, gz_d 393 1)] := ⟨_, rfl⟩
      show P (hd, 0, 0) Lh [] (pt_up r2 [(393, gz_d 393 1)]) M2
      rw [← hr3]
      have n3 : ∀ t, t ≠ 393 → r3 t = r2 t := fun t ht => by
        rw [hr3]
        exact if_neg ht
      have zn : ga_Zs N (ps_em (ps_og A N K tests σ) (B (ps_av A N σ))) := by
        obtain ⟨q', -, ⟨qt, -⟩, -⟩ := ps_og_in w.2
        exact ga_Zs_ok (ps_ok_em (ps_o1_tr (ps_o1_av (σ := σ) hA (by omega)) (hok _))) hz
      exact ih (i + 1) _ r3 M2 (by omega) (by rw [hr3]; show r2 393 + 1 = _; omega) (by rw [n3 _ (by omega), g3 _ (by omega) (by omega), e1]) (ga_R_c (fun t ht => n3 t (by omega)) g1) zn ⟨(n3 _ (by omega)).trans (g2.1.trans hfr.1), fun z hz => (g2.2 z hz).trans (hfr.2 z hz)⟩ eq
end GAS
theorem ga_loopM {n mi mj c0 hd ex ad inn em K : Nat} {L0 Lc Lh Lx : List ai_V} {Lg : Int → List ai_V} {cpa : List (Nat × Int × Int)} {tests ivs : List (Int × Int)} {A : Nat → Int} {N : Nat} {B : ps_S → ps_S} {a : Int} (hn : 8 ≤ n) (ck : ga_lk mi mj c0 hd ex ad inn em L0 Lc Lh Lx Lg cpa K tests ivs = true) (hpl : lh_plain mi = true) (hL0 : ai_pad (ct_mt mi).2.2.1 [wa_r 84, wa_i 392] = some L0) (hb : ct_bud mj = (0, 0) ∧ lh_plain mj = true) (hK : 1 ≤ K ∧ K ≤ 4) {o : ps_S → Int} (ho : ∀ τ, o τ = ps_og A N K tests τ)
    (hcov : ps_A A N → ∀ p, ps_tk A N p = K → (∃ q ∈ tests, ps_vl A N p = q.1) ∨ ∃ z ∈ ivs, z.1 ≤ ps_vl A N p ∧ ps_vl A N p ≤ z.2) (hok : ps_A A N → ∀ τ, ps_ok N τ (B τ)) (hE : ∀ τ, ga_K n mj A N τ (B τ) a) (hcp : ∀ r : Nat → Int, r 392 = a → ∀ q ∈ cpa, q.2.1 ≤ r q.1 ∧ r q.1 ≤ q.2.2) {σ : ps_S} : ga_K (n + 1) mi A N σ (ps_lp A N o B 200 (B σ)) a := by
  refine pt_intro (L0 := L0) hpl (by omega) gasys hL0 (fun P r M h hp => ?_)
  have h' := h
  obtain ⟨hseg, -⟩ := h'
  obtain ⟨⟨hR, hz⟩, ha⟩ := hp
  have hA := hR.1.2.1
  have ck' := ck
  unfold ga_lk at ck'
  simp only [Bool.and_eq_true] at ck'
  obtain ⟨⟨c1, c2, c3⟩, ⟨c4, c5⟩, c6, c7⟩ := ck'
  refine hseg _ _ _ _ _ r M _ _ _ _ _ c4 ⟨pt_m0, hcp r ha, pt_m0⟩ ⟨fun _ => ?_, trivial⟩
  show P (c0, 0, 0) Lc (.inl (392, 0) :: wa_r 84 :: []) r M
  refine ga_use h hb c6 (hE σ) hR hz (by show r 392 + 0 = a; omega) (fun r2 M2 g1 g2 g3 => ?_)
  refine hseg _ _ _ _ _ r2 M2 _ _ _ _ _ c5 ⟨pt_m0, pt_m0, pt_m0⟩ ⟨fun _ => ?_, trivial⟩
  obtain ⟨r3, hr3⟩ : ∃ r3, r3 = pt_up r2 [(393, gz_k 0)] := ⟨_, rfl⟩
  show P (hd, 0, 0) Lh [] (pt_up r2 [(393, gz_k 0)]) M2
  rw [← hr3]
  have n3 : ∀ t, t ≠ 393 → r3 t = r2 t := fun t ht => by
    rw [hr3]
    exact if_neg ht
  exact ga_lloop (r0 := r) (M0 := M) (B := B) (a := a) h hn ck hb hK ho (hcov hA) (hok hA) hE (fun r2 M2 g1 g2 => ⟨rfl, g1, g2⟩) 200 0 (B σ) r3 M2 (by omega) (by rw [hr3]; rfl) (by rw [n3 _ (by omega), g3 _ (by omega) (by omega), ha]) (ga_R_c (fun t ht => n3 t (by omega)) g1) (ga_Zs_ok (hok hA σ) hz) ⟨(n3 _ (by omega)).trans g2.1, g2.2⟩ rfl
