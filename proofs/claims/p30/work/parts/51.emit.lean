/-! THE PARSER: a method's entry; emit -/
theorem pz_new {mi n : Nat} {ri : Bool} {nb : List (Int × Int)} {aa L0 : List ai_V} {vs : List Int32} {Pre : pz_Pre} {Post : pz_Post} (X : (Nat → Int) → Prop) (hpl : ls_plain mi = true) (hL0 : ai_pad (ct_mt mi).2.2.1 aa = some L0)
    (hA : ∀ (r : Nat → Int) (ad : Nat → Nat), ai_gE r pz_E → ∃ r1, ai_ext 44 r r1 ∧ ai_gE r1 (sm_E pz_E nb) ∧ ai_gF r1 ad (44 + nb.length) 336 aa (Value.ref (ad 264) :: vs.map Value.int) ∧ X r1)
    (body : ∀ (l : Launch) (D : va_G) (tyc : Nat → ClassId) (A : Nat → Prop) (sa : ai_B), l.stackTraces = false → ∀ (ws : va_W) (g : Nat → Int32) (r r1 : Nat → Int) (ad : Nat → Nat), pz_W tyc ws g → Pre r g → ai_ext 44 r r1 → X r1 → ∀ (p : Program) (e : Env) (s : State) (m : MethodId) (args : Array Value) (below : List Frame) (meth : Method) (c : Code) (ls : Array Slot), ls_Fr p (lt_rm (n + 1) mi) s m args meth c D tyc A sa mi → meth.sig.returnType = (ct_mt mi).2.2.2.1 →
      ai_Rel D tyc A s sa ws (ct_mt mi).2.2.1 r1 ad L0 [] (pz_G nb) s.heap [] ls [] →
      W p l e (lt_rm (n + 1) mi) s m args below meth c s.heap [] 0 0 (vx_MQ below (fun _ st o t => ∃ (res : Option Int32) (ws' : va_W) (g' : Nat → Int32) (r' : Nat → Int), o = .returned (res.map Value.int) ∧ res.isSome = ri ∧ pz_sm ws ws' ∧ pz_W tyc ws' g' ∧ ai_Wd D tyc A sa ws' r' ad (pz_E, pz_h, 0, 0) t.heap ∧ Post r g r' g' ∧ va_F A st t) (fun _ _ _ => False) args s (lt_rm (n + 1) mi).cells (lt_rm (n + 1) mi).slots A) (F0 m 0 ls [])) : pz_Ct (n + 1) mi ri vs Pre Post := by
  obtain ⟨N1, N2, N3, N4, N5⟩ := pz_N
  intro l D tyc A sa hl ws g r ad H0 hW hWd hPre
  have hE : ai_gE r pz_E := by
    obtain ⟨ws2, -, -, q, -⟩ := hWd
    exact q
  obtain ⟨r1, h1, h2, h3, h4⟩ := hA r ad hE
  have hWd1 : ai_Wd D tyc A sa ws r1 ad (pz_G nb) H0 := fn_trW (N0 := 44) N3 h1 ai_ext.rfl' (by show 44 ≤ pz_E.1 + nb.length; rw [N1]; omega) h2 hWd
  refine ls_met (n := n) hpl L0 hL0 hWd1 (by
    show ai_gF r1 ad (pz_E.1 + nb.length) pz_h.1 _ _
    rw [N1, N4]
    exact h3) (fun p e s m below meth c ls F hret htb hheap hR => ?_)
  exact body l D tyc A sa hl ws g r r1 ad hW hPre h1 h4 p e s m _ below meth c ls F hret hR
/-- entry: no numbers, or such as are known -/
theorem pz_in0 {tail : List Int} (ht : tail.all (fun k => ai_le ai_lo32 k && ai_le k ai_hi32) = true) (r : Nat → Int) (ad : Nat → Nat) (hE : ai_gE r pz_E) : ∃ r1, ai_ext 44 r r1 ∧ ai_gE r1 (sm_E pz_E []) ∧ ai_gF r1 ad (44 + ([] : List (Int × Int)).length) 336 (pz_this :: tail.map (fun k => .inl (0, k))) (Value.ref (ad 264) :: (tail.map Int32.ofInt).map Value.int) ∧ True := by
  obtain ⟨N1, N2, N3, N4, N5⟩ := pz_N
  refine ⟨r, ai_ext.rfl', ⟨hE.1, hE.2.1, hE.2.2.1, hE.2.2.2.1, fun q hq => by cases hq⟩, ⟨⟨by omega, rfl⟩, ?_⟩, trivial⟩
  rw [List.map_map]
  exact fc_tail hE.1 (by omega) ht
/-- entry: one number -/
theorem pz_in1 {v : Int32} (r : Nat → Int) (ad : Nat → Nat) (hE : ai_gE r pz_E) : ∃ r1, ai_ext 44 r r1 ∧ ai_gE r1 (sm_E pz_E [(ai_lo32, ai_hi32)]) ∧ ai_gF r1 ad (44 + [(ai_lo32, ai_hi32)].length) 336 [pz_this, .inl (44, 0)] (Value.ref (ad 264) :: [v].map Value.int) ∧ r1 44 = v.toInt := by
  obtain ⟨N1, N2, N3, N4, N5⟩ := pz_N
  have hx : ai_ext 44 r (ai_upd r 44 v.toInt) := ai_upd_ext _ _ _
  have hat : ai_upd r 44 v.toInt 44 = v.toInt := ai_upd_at _ _ _
  have hp : ai_gE (ai_upd r 44 v.toInt) (sm_E pz_E [(ai_lo32, ai_hi32)]) := by
    have h1 := ai_i32 v
    have h2 : ai_lo64 ≤ v.toInt ∧ v.toInt ≤ ai_hi64 := by
      unfold ai_lo32 ai_hi32 at h1
      unfold ai_lo64 ai_hi64
      omega
    have hE' : ai_gE r (44, pz_E.2.1, []) := ⟨hE.1, by show 0 < 44; omega, fun t ht => hE.2.2.1 t (by rw [N1]; exact ht), fun q hq => ⟨N5 q hq, (hE.2.2.2.1 q hq).2⟩, fun q hq => by cases hq⟩
    have := hE'.push h1.1 h1.2 h2
    unfold sm_E
    rw [N1]
    exact this
  exact ⟨_, hx, hp, ⟨⟨by omega, rfl⟩, ⟨by show 44 < 45; omega, v, rfl, by show v.toInt = _ + 0; rw [hat, Int.add_zero]⟩, trivial⟩, hat⟩
theorem pz_Pw_set {tyc : Nat → ClassId} {ws ws' : va_W} {g g' : Nat → Int32} (hW : pz_W tyc ws g) (h1 : hg_ia tyc ws' 290 2000 g') (h2 : ∀ q, q < 1600 → g' q = g q) (h3 : ws'[270]? = ws[270]?) (h4 : ws'[272]? = ws[272]?) (h5 : ws'[273]? = ws[273]?) : pz_W tyc ws' g' := by
  obtain ⟨⟨a0, hg⟩, hPw⟩ := hW
  refine ⟨h1, fun _ => ?_⟩
  have hg : ws[274]? = some (a0, .inl (tyc 0, 2000, .inl g)) := hg
  obtain ⟨f1, f2, f3, f4, ⟨b1, k1⟩, ⟨b2, k2⟩, ⟨b3, k3⟩, ⟨b4, k4⟩, k5⟩ := hPw (by rw [hg]; intro q; cases q)
  rw [hg] at k4
  cases k4
  refine ⟨f1, f2, f3, g', ⟨b1, h3.trans k1⟩, ⟨b2, h4.trans k2⟩, ⟨b3, h5.trans k3⟩, h1, fun m hm => ?_⟩
  obtain ⟨c1, c2⟩ := k5 m hm
  refine ⟨c1, fun k hk => ?_⟩
  obtain ⟨i, j, d1, d2, d3, d4, d5⟩ := c2 k hk
  exact ⟨i, j, d1, d2, d3, d4, pw_cg (fun q hq => by rw [h2 (400 * m + q) (by omega)]) d5⟩
theorem pz_offs : (ai_cell pz_h 286).isNone = true ∧ (ai_cell pz_h 288).isNone = true ∧ (ai_cell pz_h 289).isNone = true ∧ (ai_cell pz_h 290).isNone = true := by decide +kernel
/-! emit -/
noncomputable def em_Pre : pz_Pre := fun r _ => r 14 = 0 → r 17 ≤ 399
noncomputable def em_Post (v : Int) : pz_Post := fun r g r' g' => (r 14 ≠ 0 → (∀ t, 1 ≤ t → t < 44 → r' t = r t) ∧ g' = g) ∧ (r 14 = 0 → (∀ t, 1 ≤ t → t < 44 → t ≠ 17 → r' t = r t) ∧ r' 17 = r 17 + 1 ∧ (g' (1600 + (r 17).toNat)).toInt = v ∧ ∀ q, q ≠ 1600 + (r 17).toNat → g' q = g q)
noncomputable def em_L : List ai_V := [pz_this, .inl (44, 0)]
noncomputable def em_c (f : ai_F) : Bool := Nat.beq f.1 21 && (decide (f.2.2.1 = [.inl (44, 0), .inl (17, 1600), .inr (.inr (some (some 290)))]) && ((ai_cell f.2.2.2.2.1 290).isNone && (Nat.beq f.2.2.2.2.1.1 336 && (Nat.ble 45 f.2.2.2.1.1 && lz_chk [] 194 [32] false 22 f.2.1 [] f.2.2.2 (pz_to [] 32 [pz_u, pz_u] [] [(17, (17, 1))])))))
theorem em_k : ls_plain 194 = true ∧ ls_plain 188 = true ∧ ct_bud 194 = (0, 0) ∧ ct_bud 188 = (0, 0) ∧ (ct_mt 194).2.2.1 = 2 ∧ (ct_mt 194).2.2.2.1 = none ∧ decode (ct_mt 194).2.1 7 = .ok (.return_, 1) ∧ decode (ct_mt 194).2.1 32 = .ok (.return_, 1) ∧ decode (ct_mt 194).2.1 21 = .ok (.iastore, 1) := by decide +kernel
theorem em_k0 : pz_sc [] 194 [7] false 0 em_L [] [(ai_lo32, ai_hi32)] [(14, (1, 3))] (pz_to [] 7 [pz_u, pz_u] [] []) = true := by decide +kernel
theorem em_k1 : pz_sc [] 194 [21] false 0 em_L [] [(ai_lo32, ai_hi32)] [(14, (0, 0)), (17, (0, 399))] em_c = true := by decide +kernel
theorem pz_bd {r : Nat → Int} {nb : List (Int × Int)} (hE : ai_gE r (sm_E pz_E nb)) : (0 ≤ r 7 ∧ r 7 ≤ 200) ∧ (0 ≤ r 8 ∧ r 8 ≤ 200) ∧ (0 ≤ r 9 ∧ r 9 ≤ 4) ∧ (0 ≤ r 12 ∧ r 12 ≤ 200) ∧ (0 ≤ r 13 ∧ r 13 ≤ 200) ∧ (0 ≤ r 14 ∧ r 14 ≤ 3) ∧ (0 ≤ r 17 ∧ r 17 ≤ 400) := by
  have h : ∀ q : Nat × Int × Int, q ∈ pz_E.2.1 → q.2.1 ≤ r q.1 ∧ r q.1 ≤ q.2.2 := fun q hq => (hE.2.2.2.1 q (List.mem_append_right _ hq)).2
  exact ⟨h (7, 0, 200) (by decide +kernel), h (8, 0, 200) (by decide +kernel), h (9, 0, 4) (by decide +kernel), h (12, 0, 200) (by decide +kernel), h (13, 0, 200) (by decide +kernel), h (14, 0, 3) (by decide +kernel), h (17, 0, 400) (by decide +kernel)⟩
theorem pz_emit (v : Int32) : pz_Ct 5 194 false [v] em_Pre (em_Post v.toInt) := by
  obtain ⟨p1, p2, b1, b2, n1, v1, d1, d2, d3⟩ := em_k
  refine pz_new (n := 4) (nb := [(ai_lo32, ai_hi32)]) (aa := [pz_this, .inl (44, 0)]) (L0 := em_L) (fun r1 => r1 44 = v.toInt) p1 (by rw [n1]; rfl) pz_in1 (fun l D tyc A sa hl ws g r r1 ad hW hPre hx hX p e s m args below meth c ls F hret hR => ?_)
  have hb := pz_bd hR.env
  by_cases h14 : r1 14 = 0
  · have e14 : r 14 = 0 := (hx 14 (by omega)).symm.trans h14
    have e17 : r1 17 = r 17 := hx 17 (by omega)
    have hle := hPre e14
    refine pz_seg (k0 := 0) em_k1 p1 F hl (show lt_all 0 [] from trivial) (by omega) hW hR (fun q hq => ?_) (fun f hf r' ad' x1 x2 H' locs' ls' st' hR' => ?_)
    · rcases List.mem_cons.mp hq with rfl | hq
      · exact ⟨by show 14 < 45; omega, by show (0 : Int) ≤ r1 14; omega, by show r1 14 ≤ (0 : Int); omega⟩
      · rcases List.mem_cons.mp hq with rfl | hq
        · exact ⟨by show 17 < 45; omega, by show (0 : Int) ≤ r1 17; omega, by show r1 17 ≤ (399 : Int); omega⟩
        · cases hq
    · have x1 : ai_ext 45 r1 r' := x1
      unfold em_c at hf
      simp only [Bool.and_eq_true, decide_eq_true_eq] at hf
      obtain ⟨f1, f2, f3, f4, f5, f6⟩ := hf
      rw [Nat.eq_of_beq_eq_true f1]
      rw [f2] at hR'
      have hj : (r 17).toNat < 400 := by omega
      have hi : ai_vx r' (17, 1600) = ((1600 + (r 17).toNat : Nat) : Int) := by
        show r' 17 + 1600 = _
        rw [x1 17 (by omega), e17]
        omega
      refine hg_iast F d3 hR' (by omega) (Option.isNone_iff_eq_none.mp f3) hW.1 (j := 1600 + (r 17).toNat) (by omega) hi (fun ws2 H1 locs1 st1 g1 q1 q2 q3 q4 hR1 => ?_)
      have q2 : (g1 (1600 + (r 17).toNat)).toInt = v.toInt := by
        rw [q2]
        show r' 44 + 0 = _
        rw [x1 44 (by omega), hX, Int.add_zero]
      have hW2 : pz_W tyc ws2 g1 := pz_Pw_set hW q1 (fun q hq => q3 q (by omega)) (q4 270 (by omega)) (q4 272 (by omega)) (q4 273 (by omega))
      refine lz_ok (T := []) (k0 := 0) (n := 4) p1 F hl trivial (by omega) hW2.2 f6 hR1 (fun z hz => ?_)
      intro r'' ad'' w1 w2 w3 w4 H2 locs2 ls2 st2 hR2
      have w1 : ai_ext 45 r' r'' := w1.mono (Nat.le_of_ble_eq_true f5)
      have w2 : ai_ext 336 ad' ad'' := w2.mono (by rw [Nat.eq_of_beq_eq_true f4]; exact Nat.le_refl _)
      obtain ⟨e1, e2, e3, r3, hR3, u1, u2⟩ := pz_to_ok hz (fun u hu => (w2 u hu).trans (x2 u hu)) hR2
      rw [e1, e2, e3]
      have same : ∀ t, 1 ≤ t → t < 44 → t ≠ 17 → r3 t = r t := fun t h1 h2 h3 => by
        rw [u1 t h1 h2 (by rw [List.all_cons, List.all_nil, Bool.and_true]; exact (Bool.not_eq_true' _).mpr (by cases q : Nat.beq 17 t with | false => rfl | true => exact absurd (Nat.eq_of_beq_eq_true q).symm h3)), w1 t (by omega), x1 t (by omega), hx t h2]
      have s17 : r3 17 = r 17 + 1 := by
        have := u2 _ List.mem_cons_self
        have : r3 17 = r'' 17 + 1 := this
        rw [this, w1 17 (by omega), x1 17 (by omega), e17]
      refine pz_ret (Post := em_Post v.toInt) rfl F hret d2 v1 (fun x h1 h2 h3 => q4 x h2) hW2 hR3 ⟨fun h => absurd e14 h, fun _ => ⟨same, s17, q2, q3⟩⟩
  · have e14 : r 14 ≠ 0 := by
      rw [← hx 14 (by omega)]
      exact h14
    refine pz_seg (k0 := 0) em_k0 p1 F hl (show lt_all 0 [] from trivial) (by omega) hW hR (fun q hq => ?_) (fun f hf r' ad' x1 x2 H' locs' ls' st' hR' => ?_)
    · rcases List.mem_cons.mp hq with rfl | hq
      · exact ⟨by show 14 < 45; omega, by show (1 : Int) ≤ r1 14; omega, by show r1 14 ≤ (3 : Int); omega⟩
      · cases hq
    · have x1 : ai_ext 45 r1 r' := x1
      obtain ⟨e1, e2, e3, r3, hR3, u1, u2⟩ := pz_to_ok hf x2 hR'
      rw [e1, e2, e3]
      refine pz_ret (Post := em_Post v.toInt) rfl F hret d1 v1 pz_sm.rf hW hR3 ⟨fun _ => ⟨fun t h1 h2 => ?_, rfl⟩, fun h => absurd h e14⟩
      rw [u1 t h1 h2 rfl, x1 t (by omega), hx t h2]
