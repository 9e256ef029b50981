/-! THE PARSER: need, readNumber -/
noncomputable def nd_Pre : pz_Pre := fun r _ => r 14 = 0 → pz_I r
noncomputable def nd_Post : pz_Post := fun r g r' g' => g' = g ∧ (r 14 ≠ 0 → ∀ t, 1 ≤ t → t < 44 → r' t = r t) ∧ (r 14 = 0 → r' 14 = 0 → pz_I r' ∧ r' 17 = r 17 ∧ r 12 ≤ r' 12) ∧ pz_fx r r'
noncomputable def nd_us : List ai_V := [pz_u, pz_u]
noncomputable def nd_c (v : Nat) (f : ai_F) : Bool := pz_to [] 28 (pz_L2 v) [pz_this] [] f || pz_to [] 31 nd_us [] [(14, (0, 1)), (15, (12, 0))] f
noncomputable def nd_ck (v : Nat) : Bool := pz_sc [] 192 [28, 31] false 0 (pz_L2 v) [] [] [(14, (1, 3))] (pz_to [] 31 nd_us [] []) && pz_sc [] 192 [28, 31] false 0 (pz_L2 v) [] [] [(14, (0, 0))] (nd_c v)
theorem nd_k : nd_ck 41 = true ∧ nd_ck 59 = true ∧ pz_ck 192 28 188 [pz_this] [pz_this] [] = true := by decide +kernel
theorem pz_need {v : Nat} (hk : nd_ck v = true) (hv : v < 1000) : ∀ vs : List Int32, vs.map Int32.toInt = [.ofNat v] → pz_Ct 45 192 false vs nd_Pre nd_Post := by
  obtain ⟨⟨l1, l2, l3, l4, l5, l6, l7, l8⟩, ⟨b1, b2, b3, b4, b5, b6, b7, b8⟩, ⟨n1, n2, n3, n4, n5, n6, n7, n8⟩, v1q, v3, v4, v5, v6, v7, v8⟩ := pz_pl
  obtain ⟨d1, d2, d3, d4, d5, d6, d7, d8, d9, d10⟩ := pz_dc
  intro vs hvs
  have evs : vs = [(.ofNat v : Int)].map Int32.ofInt := by
    obtain ⟨w, l', rfl, h1, h2⟩ := List.map_eq_cons_iff.mp hvs
    have h2 := List.map_eq_nil_iff.mp h2
    subst h2
    rw [← h1]
    show [w] = [Int32.ofInt w.toInt]
    rw [Int32.ofInt_toInt]
  rw [evs]
  unfold nd_ck at hk
  rw [Bool.and_eq_true] at hk
  refine pz_new (n := 44) (nb := []) (aa := [pz_this, .inl (0, .ofNat v)]) (L0 := pz_L2 v) (fun _ => True) l1 (by rw [n1]; rfl) (fun r ad hE => pz_in0 (tail := [.ofNat v]) (by
    rw [List.all_cons, List.all_nil, Bool.and_true, Bool.and_eq_true]
    exact ⟨ai_le_iff.mpr (by unfold ai_lo32; show (-2147483648 : Int) ≤ (v : Int); omega), ai_le_iff.mpr (by unfold ai_hi32; show (v : Int) ≤ 2147483647; omega)⟩) r ad hE) (fun l D tyc A sa hl ws g r0 r ad hW hPre hx _ p e s m args below meth c ls F hret hR => ?_)
  have hx1 : ∀ t, 1 ≤ t → t < 44 → r t = r0 t := fun t _ h2 => hx t h2
  have hb := pz_bd (nb := []) hR.env
  by_cases h14 : r 14 = 0
  · have h0 : r0 14 = 0 := (hx 14 (by omega)).symm.trans h14
    have hI := hPre h0
    refine pz_seg (k0 := 0) hk.2 l1 F hl (show lt_all 0 [] from trivial) (by omega) hW hR (fun q hq => ?_) (fun f hf r' ad' x1 x2 H' locs' ls' st' hR' => ?_)
    · rcases List.mem_cons.mp hq with rfl | hq
      · exact ⟨by show 14 < 44; omega, by show (0 : Int) ≤ r 14; omega, by show r 14 ≤ (0 : Int); omega⟩
      · cases hq
    · unfold nd_c at hf
      rw [Bool.or_eq_true] at hf
      rcases hf with hf | hf
      · obtain ⟨e1, e2, e3, r1, hR1, u1, u2⟩ := pz_to_ok hf x2 hR'
        rw [e1, e2, e3]
        have v1 : ∀ t, 1 ≤ t → t < 44 → r1 t = r0 t := fun t h1 h2 => (pz_un x1 u1 t h1 h2).trans (hx1 t h1 h2)
        refine pz_callv (xs := []) l1 em_k.2.1 (by omega) em_k.2.2.2.1 F hl nd_k.2.2 hW hR1 rfl rfl (fun vs hvs => ?_) trivial (Pre := fun _ _ => True) (Post := sq_Post) (fun ws2 g2 r2' H2 locs2 st2 m1 m2 m3 hR2 => ?_)
        · have : vs = [] := List.map_eq_nil_iff.mp hvs
          rw [this]
          exact pz_step.mono (by omega)
        · have sf := pz_fx.sq m3
          obtain ⟨s1, s2, s3, s4⟩ := m3
          have w : ∀ t, t < 44 → pz_mix r2' r1 t = r2' t := fun t ht => pz_mixv ht
          refine pz_ret (Post := nd_Post) rfl F hret d6 v1q m1 m2 hR2 ⟨s1, fun q => absurd h0 q, fun _ _ => ⟨pz_I_cg s3 (fun t _ h2 => w t h2), ?_, ?_⟩, ((pz_fx.al v1).tr sf).cg (fun t _ h2 => w t h2)⟩
          · rw [w 17 (by omega), s2 17 (by omega) (by omega) rfl, v1 17 (by omega) (by omega)]
          · rw [w 12 (by omega)]
            have e7 := v1 7 (by omega) (by omega)
            obtain ⟨i1, i2, i3, i4, i5⟩ := hI
            omega
      · obtain ⟨e1, e2, e3, r1, hR1, u1, u2⟩ := pz_to_ok hf x2 hR'
        rw [e1, e2, e3]
        have e14 : r1 14 = 1 := by
          have : r1 14 = r' 0 + 1 := u2 _ List.mem_cons_self
          rw [this, hR'.env.1]
          rfl
        exact pz_ret (Post := nd_Post) rfl F hret d6 v1q pz_sm.rf hW hR1 ⟨rfl, fun q => absurd h0 q, fun _ q => absurd q (by omega), fun t h1 h2 h3 => (u1 t h1 h2 (pz_ne2 (fun q => pz_tc_n h3 (by omega)) (fun q => pz_tc_n h3 (by omega)))).trans ((x1 t h2).trans (hx1 t h1 h2))⟩
  · have h0 : r0 14 ≠ 0 := by
      rw [← hx 14 (by omega)]
      exact h14
    refine pz_seg (k0 := 0) hk.1 l1 F hl (show lt_all 0 [] from trivial) (by omega) hW hR (fun q hq => ?_) (fun f hf r' ad' x1 x2 H' locs' ls' st' hR' => ?_)
    · rcases List.mem_cons.mp hq with rfl | hq
      · exact ⟨by show 14 < 44; omega, by show (1 : Int) ≤ r 14; omega, by show r 14 ≤ (3 : Int); omega⟩
      · cases hq
    · obtain ⟨e1, e2, e3, r1, hR1, u1, u2⟩ := pz_to_ok hf x2 hR'
      rw [e1, e2, e3]
      exact pz_ret (Post := nd_Post) rfl F hret d6 v1q pz_sm.rf hW hR1 ⟨rfl, fun _ t h1 h2 => (pz_un x1 u1 t h1 h2).trans (hx1 t h1 h2), fun q => absurd q h0, pz_fx.al (fun t h1 h2 => (pz_un x1 u1 t h1 h2).trans (hx1 t h1 h2))⟩
/-! readNumber -/
section PZ
variable {p : Program} {l : Launch} {e : Env} {s : State} {m : MethodId} {args : Array Value} {below : List Frame} {meth : Method} {c : Code} {Q : State → Prop}
variable {D : va_G} {tyc : Nat → ClassId} {A : Nat → Prop} {sa : ai_B} {ws : va_W} {g : Nat → Int32} {mi n : Nat}
variable {r : Nat → Int} {ad : Nat → Nat} {L S S' : List ai_V} {H : Heap} {locs : List Loc} {ls : Array Slot} {st : List Value} {pc mj : Nat} {nb : List (Int × Int)} {Post : pz_Post}
/-- an end with a number -/
theorem pz_reti {ws0 : va_W} {g0 : Nat → Int32} {r0 : Nat → Int} {x : ai_X} (F : ls_Fr p (lt_rm (n + 1) mi) s m args meth c D tyc A sa mi) (hpl : ls_plain mi = true) (hret : meth.sig.returnType = (ct_mt mi).2.2.2.1) (hir : fc_ir mi pc = true) (hsm : pz_sm ws0 ws) (hW : pz_W tyc ws g) (hR : ai_Rel D tyc A s sa ws (ct_mt mi).2.2.1 r ad L [.inl x] (pz_G nb) H locs ls st) (hPost : Post r0 g0 r g) :
    W p l e (lt_rm (n + 1) mi) s m args below meth c H locs 0 0 (vx_MQ below (fun _ st o t => ∃ (res : Option Int32) (ws' : va_W) (g' : Nat → Int32) (r' : Nat → Int), o = .returned (res.map Value.int) ∧ res.isSome = true ∧ pz_sm ws0 ws' ∧ pz_W tyc ws' g' ∧ ai_Wd D tyc A sa ws' r' ad (pz_E, pz_h, 0, 0) t.heap ∧ Post r0 g0 r' g' ∧ va_F A st t) (fun _ _ _ => False) args s (lt_rm (n + 1) mi).cells (lt_rm (n + 1) mi).slots A) (F0 m pc ls st) := by
  obtain ⟨N1, N2, N3, N4, N5⟩ := pz_N
  unfold ls_plain at hpl
  simp only [Bool.and_eq_true, Bool.not_eq_true'] at hpl
  obtain ⟨p1, -, p3⟩ := hpl
  obtain ⟨mok, htab⟩ := ls_known p1
  rw [p3] at htab
  obtain ⟨len, a, b, ec, ha⟩ := fc_ir_ok hir
  obtain ⟨d1, -, -, d4, -⟩ := htab _ _ _ _ _ ec
  obtain ⟨rfl, w1, w2⟩ := d4
  obtain ⟨hx, hb, hml, hts, hown, hSt0, hA, hbud, hcls, hroom, hlocks⟩ := F
  have hE := hR.env
  obtain ⟨hWd, hS, hLL, hSt⟩ := hR.wd
  obtain ⟨i, t, rfl, i1, i2, i3⟩ := hSt.int
  have ht : t = [] := by
    cases t with
    | nil => rfl
    | cons w t => exact i3.elim
  subst ht
  refine W.widen (Nat.zero_le _) (Nat.zero_le _) (vx_ret (W.iret hx hb (hret.trans (w2 ha)) (fun t ht _ => ?_) hS.2.2 d1 hlocks))
  refine ⟨some i, ws, g, r, rfl, rfl, hsm, hW, ?_, hPost, hS.F ht⟩
  rw [ht]
  exact fn_trW (N0 := 44) N3 ai_ext.rfl' ai_ext.rfl' (by rw [N1]; exact Nat.le_refl _) (pz_Esub hE) hWd
end PZ
theorem pz_ne3 {a b c t : Nat} {x y z : ai_X} (h1 : a ≠ t) (h2 : b ≠ t) (h3 : c ≠ t) : ([(a, x), (b, y), (c, z)] : List (Nat × ai_X)).all (fun q => !(Nat.beq q.1 t)) = true := by
  have e : ∀ c : Nat, c ≠ t → Nat.beq c t = false := fun c hc => by
    cases q : Nat.beq c t with
    | false => rfl
    | true => exact absurd (Nat.eq_of_beq_eq_true q) hc
  rw [List.all_cons, List.all_cons, List.all_cons, List.all_nil]
  show (!(Nat.beq a t) && (!(Nat.beq b t) && (!(Nat.beq c t) && true))) = true
  rw [e a h1, e b h2, e c h3]
  rfl
noncomputable def rn_Pre : pz_Pre := fun r _ => r 14 = 0 ∧ pz_I r ∧ r 9 = 2
noncomputable def rn_Post : pz_Post := fun r g r' g' => g' = g ∧ (r' 14 = 0 → pz_I r' ∧ r' 17 = r 17 ∧ r 12 < r' 12) ∧ pz_fx r r'
noncomputable def rn_b : Int × Int := (ai_lo32, ai_hi32)
noncomputable def rn_L : List ai_V := [pz_this, .inl (44, 0)]
noncomputable def rn_c (f : ai_F) : Bool := pz_to [rn_b] 56 rn_L [pz_this] [(44, (11, 0))] f || pz_to [rn_b] 60 nd_us [.inl (44, 0)] [(14, (0, 2)), (15, (12, 0)), (44, (11, 0))] f
theorem rn_k1 : pz_sc [] 193 [56, 60] false 0 [pz_this, pz_u] [] [] [(14, (0, 0)), (9, (2, 2))] rn_c = true := by decide +kernel
theorem rn_k2 : pz_sc [] 193 [60] false 59 rn_L [] [rn_b] [] (pz_to [rn_b] 60 nd_us [.inl (44, 0)] [(44, (44, 0))]) = true := by decide +kernel
theorem rn_k3 : pz_ck 193 56 188 [pz_this] [pz_this] [] = true ∧ fc_ir 193 60 = true := by decide +kernel
theorem pz_number : pz_Ct 45 193 true [] rn_Pre rn_Post := by
  obtain ⟨⟨l1, l2, l3, l4, l5, l6, l7, l8⟩, ⟨b1, b2, b3, b4, b5, b6, b7, b8⟩, ⟨n1, n2, n3, n4, n5, n6, n7, n8⟩, v1, v3, v4, v5, v6, v7, v8⟩ := pz_pl
  refine pz_new (n := 44) (nb := []) (aa := [pz_this]) (L0 := [pz_this, pz_u]) (fun _ => True) l2 (by rw [n2]; rfl) (fun r ad hE => pz_in0 (tail := []) rfl r ad hE) (fun l D tyc A sa hl ws g r0 r ad hW hPre hx _ p e s m args below meth c ls F hret hR => ?_)
  obtain ⟨h0, hI, h9⟩ := hPre
  have hx1 : ∀ t, 1 ≤ t → t < 44 → r t = r0 t := fun t _ h2 => hx t h2
  have e14 := hx 14 (by omega)
  have e9 := hx 9 (by omega)
  refine pz_seg (k0 := 0) rn_k1 l2 F hl (show lt_all 0 [] from trivial) (by omega) hW hR (fun q hq => ?_) (fun f hf r' ad' x1 x2 H' locs' ls' st' hR' => ?_)
  · rcases List.mem_cons.mp hq with rfl | hq
    · exact ⟨by show 14 < 44; omega, by show (0 : Int) ≤ r 14; omega, by show r 14 ≤ (0 : Int); omega⟩
    · rcases List.mem_cons.mp hq with rfl | hq
      · exact ⟨by show 9 < 44; omega, by show (2 : Int) ≤ r 9; omega, by show r 9 ≤ (2 : Int); omega⟩
      · cases hq
  · unfold rn_c at hf
    rw [Bool.or_eq_true] at hf
    rcases hf with hf | hf
    · obtain ⟨e1, e2, e3, r1, hR1, u1, u2⟩ := pz_to_ok hf x2 hR'
      rw [e1, e2, e3]
      have v1 : ∀ t, 1 ≤ t → t < 44 → r1 t = r0 t := fun t h1 h2 => (u1 t h1 h2 (by rw [List.all_cons, List.all_nil, Bool.and_true]; cases q : Nat.beq 44 t with | false => rfl | true => exact absurd (Nat.eq_of_beq_eq_true q) (by omega))).trans ((x1 t h2).trans (hx1 t h1 h2))
      refine pz_callv (xs := []) l2 em_k.2.1 (by omega) em_k.2.2.2.1 F hl rn_k3.1 hW hR1 rfl rfl (fun vs hvs => ?_) trivial (Pre := fun _ _ => True) (Post := sq_Post) (fun ws2 g2 r2' H2 locs2 st2 m1 m2 m3 hR2 => ?_)
      · have : vs = [] := List.map_eq_nil_iff.mp hvs
        rw [this]
        exact pz_step.mono (by omega)
      · have sf := pz_fx.sq m3
        obtain ⟨s1, s2, s3, s4⟩ := m3
        have w : ∀ t, t < 44 → pz_mix r2' r1 t = r2' t := fun t ht => pz_mixv ht
        refine pz_seg (k0 := 0) rn_k2 l2 F hl (show lt_all 0 [] from trivial) (by omega) m2 hR2 (fun q hq => by cases hq) (fun f3 hf3 r3' ad3 y1 y2 H3 locs3 ls3 st3 hR3' => ?_)
        obtain ⟨e1, e2, e3, r3, hR3, u3, u4⟩ := pz_to_ok hf3 y2 hR3'
        rw [e1, e2, e3]
        have y1 : ai_ext 45 (pz_mix r2' r1) r3' := y1
        have v3 : ∀ t, 1 ≤ t → t < 44 → r3 t = r2' t := fun t h1 h2 => (u3 t h1 h2 (by rw [List.all_cons, List.all_nil, Bool.and_true]; cases q : Nat.beq 44 t with | false => rfl | true => exact absurd (Nat.eq_of_beq_eq_true q) (by omega))).trans ((y1 t (by omega)).trans (w t h2))
        refine pz_reti (Post := rn_Post) F l2 hret rn_k3.2 m1 m2 hR3 ⟨s1, fun _ => ⟨pz_I_cg s3 v3, ?_, ?_⟩, ((pz_fx.al v1).tr sf).cg v3⟩
        · rw [v3 17 (by omega) (by omega), s2 17 (by omega) (by omega) rfl, v1 17 (by omega) (by omega)]
        · rw [v3 12 (by omega) (by omega)]
          have e7 := v1 7 (by omega) (by omega)
          obtain ⟨i1, i2, i3, i4, i5⟩ := hI
          have := i5 (by omega)
          omega
    · obtain ⟨e1, e2, e3, r1, hR1, u1, u2⟩ := pz_to_ok hf x2 hR'
      rw [e1, e2, e3]
      have e14 : r1 14 = 2 := by
        have : r1 14 = r' 0 + 2 := u2 _ List.mem_cons_self
        rw [this, hR'.env.1]
        rfl
      exact pz_reti (Post := rn_Post) F l2 hret rn_k3.2 pz_sm.rf hW hR1 ⟨rfl, fun q => absurd q (by omega), fun t h1 h2 h3 => (u1 t h1 h2 (pz_ne3 (fun q => pz_tc_n h3 (by omega)) (fun q => pz_tc_n h3 (by omega)) (by omega))).trans ((x1 t h2).trans (hx1 t h1 h2))⟩
