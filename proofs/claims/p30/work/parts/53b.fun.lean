/-! THE PARSER: an operand and the loop, from the method's entry; products, sums, ands, expressions -/
theorem pz_X_cg0 {M : Nat} {r r1 r' : Nat → Int} {g g' : Nat → Int32} (hc : ∀ t, 1 ≤ t → t < 44 → r1 t = r t) (h : pz_X M r1 g r' g') : pz_X M r g r' g' := by
  have e14 := hc 14 (by omega) (by omega)
  have e17 := hc 17 (by omega) (by omega)
  have e12 := hc 12 (by omega) (by omega)
  unfold pz_X at h ⊢
  rw [e14, e17, e12] at h
  exact ⟨fun q => ⟨fun t h1 h2 => ((h.1 q).1 t h1 h2).trans (hc t h1 h2), (h.1 q).2⟩, fun q => ⟨⟨(h.2 q).1.1, (pz_fx.al hc).tr (h.2 q).1.2⟩, (h.2 q).2⟩⟩
theorem pz_ne2 {a b t : Nat} {x y : ai_X} (h1 : a ≠ t) (h2 : b ≠ t) : ([(a, x), (b, y)] : List (Nat × ai_X)).all (fun q => !(Nat.beq q.1 t)) = true := by
  have e : ∀ c : Nat, c ≠ t → Nat.beq c t = false := fun c hc => by
    cases q : Nat.beq c t with
    | false => rfl
    | true => exact absurd (Nat.eq_of_beq_eq_true q) hc
  rw [List.all_cons, List.all_cons, List.all_nil]
  show (!(Nat.beq a t) && (!(Nat.beq b t) && true)) = true
  rw [e a h1, e b h2]
  rfl
noncomputable def pz_fe (p0 er : Nat) (a : Int) (L : List ai_V) (f : ai_F) : Bool := pz_to [] p0 L [.inl (0, a), pz_this] [] f || pz_to [] er (pz_us L) [] [] f
noncomputable def pz_ff (p0 : Nat) (a : Int) (L : List ai_V) (f : ai_F) : Bool := pz_to [] p0 L [.inl (0, a), pz_this] [] f || (pz_to [] p0 L [.inl (0, a), pz_this] [(14, (0, 1)), (15, (12, 0))] f || pz_to [] p0 L [.inl (0, a), pz_this] [(14, (0, 2)), (15, (12, 0))] f)
noncomputable def pz_fk (mi mu p0 er : Nat) (a : Int) (L : List ai_V) : Bool :=
  pz_sc [] mi [p0, er] false 0 L [] [] [(14, (1, 3))] (pz_fe p0 er a L) && (pz_sc [] mi [p0, er] false 0 L [] [] [(14, (0, 0))] (pz_ff p0 a L) && (pz_ck mi p0 mu [.inl (0, a), pz_this] [pz_this, .inl (0, a)] [] && (ai_le ai_lo32 a && ai_le a ai_hi32)))
section PL
variable {T : List (Nat × us_C)} {k0 n mi mu ps pu pe pr p0 er M M' : Nat} {a : Int} {L : List ai_V} {opts : List (List ai_V × Int)} {b : Bool}
set_option maxHeartbeats 2000000 in
theorem pz_fun (hfk : pz_fk mi mu p0 er a L = true) (hlk : pz_lk T mi mu (p0 + 3) ps pu pe pr a L opts = true) (hL : ai_pad (ct_mt mi).2.2.1 [pz_this, .inl (0, a)] = some L) (hpl : ls_plain mi = true) (hplu : ls_plain mu = true) (hmu : mu < 1000) (hbu : ct_bud mu = (0, 0)) (hv : (ct_mt mi).2.2.2.1 = none) (hdg : decode (ct_mt mi).2.1 pr = .ok (.return_, 1)) (hde : decode (ct_mt mi).2.1 er = .ok (.return_, 1)) (hT : lt_all k0 T) (hk : k0 + 4 ≤ n) (hn : 45 ≤ n)
    (hsub : ∀ vs : List Int32, vs.map Int32.toInt = [a] → pz_Ct n mu false vs (pz_XP b) (pz_X M')) (hM : M' + 1 ≤ M) (hM2 : 2 ≤ M) : ∀ vs : List Int32, vs.map Int32.toInt = [a] → pz_Ct (n + 1) mi false vs (pz_XP b) (pz_X M) := by
  have hlk' := hlk
  unfold pz_lk at hlk'
  simp only [Bool.and_eq_true] at hlk'
  obtain ⟨c0, -, -, -, -, -, -, hLl⟩ := hlk'
  unfold pz_fk at hfk
  simp only [Bool.and_eq_true] at hfk
  obtain ⟨f0, f1, ck, a1, a2⟩ := hfk
  intro vs hvs
  have evs : vs = [a].map Int32.ofInt := by
    obtain ⟨v, l', rfl, h1, h2⟩ := List.map_eq_cons_iff.mp hvs
    have h2 := List.map_eq_nil_iff.mp h2
    subst h2
    rw [← h1]
    show [v] = [Int32.ofInt v.toInt]
    rw [Int32.ofInt_toInt]
  rw [evs]
  refine pz_new (n := n) (nb := []) (aa := [pz_this, .inl (0, a)]) (L0 := L) (fun _ => True) hpl hL (fun r ad hE => pz_in0 (tail := [a]) (by
    rw [List.all_cons, List.all_nil, Bool.and_true, Bool.and_eq_true]
    exact ⟨a1, a2⟩) r ad hE) (fun l D tyc A sa hl ws g r0 r ad hW hPre hx _ p e s m args below meth c ls F hret hR => ?_)
  have hx1 : ∀ t, 1 ≤ t → t < 44 → r t = r0 t := fun t _ h2 => hx t h2
  have hb := pz_bd (nb := []) hR.env
  have sub : ∀ {r1 : Nat → Int} {H : Heap} {locs : List Loc} {ls : Array Slot} {st : List Value}, ai_Rel D tyc A s sa ws (ct_mt mi).2.2.1 r1 ad L [.inl (0, a), pz_this] (pz_G []) H locs ls st → pz_XP b r1 g → (∀ (ws' : va_W) (g' : Nat → Int32) (r' : Nat → Int) (H' : Heap) (locs' : List Loc) (rest : List Value), pz_sm ws ws' → pz_W tyc ws' g' → pz_X M' r1 g r' g' → ai_Rel D tyc A s sa ws' (ct_mt mi).2.2.1 (pz_mix r' r1) ad L [] (pz_G []) H' locs' ls rest → W p l e (lt_rm (n + 1) mi) s m args below meth c H' locs' 0 0 (pz_Q below D tyc A sa ws r0 g ad args s n mi (pz_X M)) (F0 m (p0 + 3) ls rest)) → W p l e (lt_rm (n + 1) mi) s m args below meth c H locs 0 0 (pz_Q below D tyc A sa ws r0 g ad args s n mi (pz_X M)) (F0 m p0 ls st) := fun {r1 H locs ls st} hR1 hP1 kk =>
    pz_callv (xs := [(0, a)]) hpl hplu hmu hbu F hl ck hW hR1 hLl rfl (fun vs hvs => hsub vs (by
      refine hvs.trans ?_
      show [ai_vx r1 (0, a)] = [a]
      have : ai_vx r1 (0, a) = a := by
        show r1 0 + a = a
        rw [hR1.env.1]
        omega
      rw [this])) hP1 kk
  by_cases h14 : r 14 = 0
  · have h0 : r0 14 = 0 := (hx 14 (by omega)).symm.trans h14
    obtain ⟨hbt, hI0, hle0⟩ := hPre h0
    subst hbt
    have loop := pz_loop (n := n) (M := M) (r0 := r0) (g0 := g) (ad := ad) (ws0 := ws) (D := D) (tyc := tyc) (A := A) (sa := sa) (p := p) (e := e) (s := s) (m := m) (args := args) (below := below) (meth := meth) (c := c) hlk hpl hplu hmu hbu hv hdg F hl hret hT hk hn hsub hM hM2 h0 hle0 (by rw [← hx 17 (by omega)]; exact hb.2.2.2.2.2.2.1)
    refine pz_seg (k0 := 0) f1 hpl F hl (show lt_all 0 [] from trivial) (by omega) hW hR (fun q hq => ?_) (fun f hf r' ad' x1 x2 H' locs' ls' st' hR' => ?_)
    · rcases List.mem_cons.mp hq with rfl | hq
      · exact ⟨by show 14 < 44; omega, by show (0 : Int) ≤ r 14; omega, by show r 14 ≤ (0 : Int); omega⟩
      · cases hq
    · have bad : ∀ v : Int, (1 ≤ v ∧ v ≤ 2) → pz_to [] p0 L [.inl (0, a), pz_this] [(14, (0, v)), (15, (12, 0))] f = true → W p l e (lt_rm (n + 1) mi) s m args below meth c H' locs' f.2.2.2.2.2.1 f.2.2.2.2.2.2 (pz_Q below D tyc A sa ws r0 g ad args s n mi (pz_X M)) (F0 m f.1 ls' st') := fun v hv1 hf => by
        obtain ⟨e1, e2, e3, r1, hR1, u1, u2⟩ := pz_to_ok hf x2 hR'
        rw [e1, e2, e3]
        have e14 : r1 14 = v := by
          have : r1 14 = r' 0 + v := u2 _ List.mem_cons_self
          rw [this, hR'.env.1]
          omega
        have ne14 : r1 14 ≠ 0 := by omega
        refine sub hR1 (fun q => absurd q ne14) (fun ws' g' r2 H2 locs2 rest m1 m2 m3 hR2 => ?_)
        obtain ⟨y1, y2⟩ := m3.1 ne14
        refine loop 200 ws' g' (pz_mix r2 r1) H2 locs2 ls' rest m1 m2 ?_ (fun q => ?_) hR2
        · rw [y2]
          refine ⟨fun q => absurd h0 q, fun _ => ⟨⟨fun q _ => rfl, fun t h1 h2 h3 => ?_⟩, fun q => ?_⟩⟩
          · have n3 := pz_tc_n h3
            rw [pz_mixv h2, y1 t h1 h2, u1 t h1 h2 (pz_ne2 (by omega) (by omega)), x1 t h2, hx t h2]
          · rw [pz_mixv (by omega), y1 14 (by omega) (by omega)] at q
            exact absurd q ne14
        · rw [pz_mixv (by omega), y1 14 (by omega) (by omega)] at q
          exact absurd q ne14
      unfold pz_ff at hf
      rw [Bool.or_eq_true, Bool.or_eq_true] at hf
      rcases hf with hf | hf | hf
      · obtain ⟨e1, e2, e3, r1, hR1, u1, u2⟩ := pz_to_ok hf x2 hR'
        rw [e1, e2, e3]
        have v1 : ∀ t, 1 ≤ t → t < 44 → r1 t = r0 t := fun t h1 h2 => (pz_un x1 u1 t h1 h2).trans (hx1 t h1 h2)
        refine sub hR1 (fun _ => ⟨rfl, pz_I_cg hI0 v1, by rw [v1 17 (by omega) (by omega), v1 12 (by omega) (by omega)]; exact hle0⟩) (fun ws' g' r2 H2 locs2 rest m1 m2 m3 hR2 => ?_)
        have m4 : pz_X M r0 g (pz_mix r2 r1) g' := pz_X_cg ((pz_X_cg0 v1 m3).mono (by omega)) (fun t _ h2 => pz_mixv h2)
        refine loop 200 ws' g' (pz_mix r2 r1) H2 locs2 ls' rest m1 m2 m4 (fun q => ?_) hR2
        have := ((m4.2 h0).2 q).1.2.1
        omega
      · exact bad 1 ⟨by omega, by omega⟩ hf
      · exact bad 2 ⟨by omega, by omega⟩ hf
  · have h0 : r0 14 ≠ 0 := by
      rw [← hx 14 (by omega)]
      exact h14
    refine pz_seg (k0 := 0) f0 hpl F hl (show lt_all 0 [] from trivial) (by omega) hW hR (fun q hq => ?_) (fun f hf r' ad' x1 x2 H' locs' ls' st' hR' => ?_)
    · rcases List.mem_cons.mp hq with rfl | hq
      · exact ⟨by show 14 < 44; omega, by show (1 : Int) ≤ r 14; omega, by show r 14 ≤ (3 : Int); omega⟩
      · cases hq
    · unfold pz_fe at hf
      rw [Bool.or_eq_true] at hf
      rcases hf with hf | hf
      · obtain ⟨e1, e2, e3, r1, hR1, u1, u2⟩ := pz_to_ok hf x2 hR'
        rw [e1, e2, e3]
        have v1 : ∀ t, 1 ≤ t → t < 44 → r1 t = r0 t := fun t h1 h2 => (pz_un x1 u1 t h1 h2).trans (hx1 t h1 h2)
        have ne14 : r1 14 ≠ 0 := by
          rw [v1 14 (by omega) (by omega)]
          exact h0
        refine sub hR1 (fun q => absurd q ne14) (fun ws' g' r2 H2 locs2 rest m1 m2 m3 hR2 => ?_)
        obtain ⟨y1, y2⟩ := m3.1 ne14
        have w : ∀ t, 1 ≤ t → t < 44 → pz_mix r2 r1 t = r0 t := fun t h1 h2 => by rw [pz_mixv h2, y1 t h1 h2, v1 t h1 h2]
        have hb2 := pz_bd (nb := []) hR2.env
        refine pz_seg (k0 := 0) c0 hpl F hl (show lt_all 0 [] from trivial) (by omega) m2 hR2 (fun q hq => ?_) (fun f hf r' ad' x1 x2 H' locs' ls' st' hR' => ?_)
        · rcases List.mem_cons.mp hq with rfl | hq
          · have := w 14 (by omega) (by omega)
            exact ⟨by show 14 < 44; omega, by show (1 : Int) ≤ pz_mix r2 r1 14; omega, by show pz_mix r2 r1 14 ≤ (3 : Int); omega⟩
          · cases hq
        · obtain ⟨e1, e2, e3, r3, hR3, u1, u2⟩ := pz_to_ok hf x2 hR'
          rw [e1, e2, e3]
          refine pz_ret rfl F hret hdg hv m1 m2 hR3 ⟨fun _ => ⟨fun t h1 h2 => (pz_un x1 u1 t h1 h2).trans (w t h1 h2), y2⟩, fun q => absurd q h0⟩
      · obtain ⟨e1, e2, e3, r3, hR3, u1, u2⟩ := pz_to_ok hf x2 hR'
        rw [e1, e2, e3]
        refine pz_ret rfl F hret hde hv pz_sm.rf hW hR3 ⟨fun _ => ⟨fun t h1 h2 => (pz_un x1 u1 t h1 h2).trans (hx1 t h1 h2), rfl⟩, fun q => absurd q h0⟩
end PL
